section
-- ===== PART A: goes FIRST, ahead of the names: the tables' words, and 'selects' of the private methods out of them =====
/-- a private method of a class that the tables say can be made, by its rows of tables_1 -/
def lw_okq (q : MethodName × Nat) : Prop := (q.1.cls ≠ "java/lang/invoke/MethodHandle" ∧ q.1.cls ≠ "java/lang/invoke/VarHandle") ∧ Cond.instantiable q.1.cls q.2 ∈ tables_1 ∧ Cond.privateMethod q.1 ∈ tables_1 ∧ Cond.instanceMethod q.1 ∈ tables_1
theorem lw_p0 : lw_okq (⟨"FewPlaces", "refusalOfOrbit", "(I)I"⟩, 15) := ⟨⟨by decide +kernel, by decide +kernel⟩, List.mem_of_getElem? (i := 12) (by decide +kernel), List.mem_of_getElem? (i := 318) (by decide +kernel), List.mem_of_getElem? (i := 319) (by decide +kernel)⟩
theorem lw_p1 : lw_okq (⟨"FewPlaces", "failed", "(I)I"⟩, 15) := ⟨⟨by decide +kernel, by decide +kernel⟩, List.mem_of_getElem? (i := 12) (by decide +kernel), List.mem_of_getElem? (i := 337) (by decide +kernel), List.mem_of_getElem? (i := 338) (by decide +kernel)⟩
theorem lw_p2 : lw_okq (⟨"FewPlaces", "addFrom", "(LFewPlaces$Sheet;II)I"⟩, 15) := ⟨⟨by decide +kernel, by decide +kernel⟩, List.mem_of_getElem? (i := 12) (by decide +kernel), List.mem_of_getElem? (i := 350) (by decide +kernel), List.mem_of_getElem? (i := 351) (by decide +kernel)⟩
theorem lw_p3 : lw_okq (⟨"FewPlaces", "sizeOfOrbit", "(I)I"⟩, 15) := ⟨⟨by decide +kernel, by decide +kernel⟩, List.mem_of_getElem? (i := 12) (by decide +kernel), List.mem_of_getElem? (i := 378) (by decide +kernel), List.mem_of_getElem? (i := 379) (by decide +kernel)⟩
theorem lw_p4 : lw_okq (⟨"FewPlaces", "findSum", "(II)V"⟩, 15) := ⟨⟨by decide +kernel, by decide +kernel⟩, List.mem_of_getElem? (i := 12) (by decide +kernel), List.mem_of_getElem? (i := 396) (by decide +kernel), List.mem_of_getElem? (i := 397) (by decide +kernel)⟩
theorem lw_p5 : lw_okq (⟨"FewPlaces", "findError", "(II)V"⟩, 15) := ⟨⟨by decide +kernel, by decide +kernel⟩, List.mem_of_getElem? (i := 12) (by decide +kernel), List.mem_of_getElem? (i := 413) (by decide +kernel), List.mem_of_getElem? (i := 414) (by decide +kernel)⟩
theorem lw_p6 : lw_okq (⟨"FewPlaces", "firstWrongTerm", "()I"⟩, 15) := ⟨⟨by decide +kernel, by decide +kernel⟩, List.mem_of_getElem? (i := 12) (by decide +kernel), List.mem_of_getElem? (i := 426) (by decide +kernel), List.mem_of_getElem? (i := 427) (by decide +kernel)⟩
theorem lw_p7 : lw_okq (⟨"FewPlaces", "areAllWithin", "()Z"⟩, 15) := ⟨⟨by decide +kernel, by decide +kernel⟩, List.mem_of_getElem? (i := 12) (by decide +kernel), List.mem_of_getElem? (i := 442) (by decide +kernel), List.mem_of_getElem? (i := 443) (by decide +kernel)⟩
theorem lw_p8 : lw_okq (⟨"FewPlaces", "areAllAbove", "()Z"⟩, 15) := ⟨⟨by decide +kernel, by decide +kernel⟩, List.mem_of_getElem? (i := 12) (by decide +kernel), List.mem_of_getElem? (i := 446) (by decide +kernel), List.mem_of_getElem? (i := 447) (by decide +kernel)⟩
theorem lw_p9 : lw_okq (⟨"FewPlaces", "isEven", "()Z"⟩, 15) := ⟨⟨by decide +kernel, by decide +kernel⟩, List.mem_of_getElem? (i := 12) (by decide +kernel), List.mem_of_getElem? (i := 450) (by decide +kernel), List.mem_of_getElem? (i := 451) (by decide +kernel)⟩
theorem lw_p10 : lw_okq (⟨"FewPlaces", "isOrbitOfWeight", "(I)Z"⟩, 15) := ⟨⟨by decide +kernel, by decide +kernel⟩, List.mem_of_getElem? (i := 12) (by decide +kernel), List.mem_of_getElem? (i := 454) (by decide +kernel), List.mem_of_getElem? (i := 455) (by decide +kernel)⟩
theorem lw_p11 : lw_okq (⟨"FewPlaces", "becomePair", "(II)V"⟩, 15) := ⟨⟨by decide +kernel, by decide +kernel⟩, List.mem_of_getElem? (i := 12) (by decide +kernel), List.mem_of_getElem? (i := 521) (by decide +kernel), List.mem_of_getElem? (i := 522) (by decide +kernel)⟩
theorem lw_p12 : lw_okq (⟨"FewPlaces", "findSumOfCut", "(I)V"⟩, 15) := ⟨⟨by decide +kernel, by decide +kernel⟩, List.mem_of_getElem? (i := 12) (by decide +kernel), List.mem_of_getElem? (i := 538) (by decide +kernel), List.mem_of_getElem? (i := 539) (by decide +kernel)⟩
theorem lw_p13 : lw_okq (⟨"FewPlaces", "sumMoved", "(II)J"⟩, 15) := ⟨⟨by decide +kernel, by decide +kernel⟩, List.mem_of_getElem? (i := 12) (by decide +kernel), List.mem_of_getElem? (i := 543) (by decide +kernel), List.mem_of_getElem? (i := 544) (by decide +kernel)⟩
theorem lw_p14 : lw_okq (⟨"FewPlaces", "valueAt", "(II)J"⟩, 15) := ⟨⟨by decide +kernel, by decide +kernel⟩, List.mem_of_getElem? (i := 12) (by decide +kernel), List.mem_of_getElem? (i := 547) (by decide +kernel), List.mem_of_getElem? (i := 548) (by decide +kernel)⟩
theorem lw_p15 : lw_okq (⟨"FewPlaces", "kindOf", "(I)I"⟩, 15) := ⟨⟨by decide +kernel, by decide +kernel⟩, List.mem_of_getElem? (i := 12) (by decide +kernel), List.mem_of_getElem? (i := 589) (by decide +kernel), List.mem_of_getElem? (i := 590) (by decide +kernel)⟩
def lw_privs_1 : List (MethodName × Nat) := [(⟨"FewPlaces", "refusalOfOrbit", "(I)I"⟩, 15), (⟨"FewPlaces", "failed", "(I)I"⟩, 15), (⟨"FewPlaces", "addFrom", "(LFewPlaces$Sheet;II)I"⟩, 15), (⟨"FewPlaces", "sizeOfOrbit", "(I)I"⟩, 15), (⟨"FewPlaces", "findSum", "(II)V"⟩, 15), (⟨"FewPlaces", "findError", "(II)V"⟩, 15), (⟨"FewPlaces", "firstWrongTerm", "()I"⟩, 15), (⟨"FewPlaces", "areAllWithin", "()Z"⟩, 15), (⟨"FewPlaces", "areAllAbove", "()Z"⟩, 15), (⟨"FewPlaces", "isEven", "()Z"⟩, 15), (⟨"FewPlaces", "isOrbitOfWeight", "(I)Z"⟩, 15), (⟨"FewPlaces", "becomePair", "(II)V"⟩, 15), (⟨"FewPlaces", "findSumOfCut", "(I)V"⟩, 15), (⟨"FewPlaces", "sumMoved", "(II)J"⟩, 15), (⟨"FewPlaces", "valueAt", "(II)J"⟩, 15), (⟨"FewPlaces", "kindOf", "(I)I"⟩, 15)]
theorem lw_r1 : ∀ q ∈ lw_privs_1, lw_okq q := List.forall_mem_cons.mpr ⟨lw_p0, List.forall_mem_cons.mpr ⟨lw_p1, List.forall_mem_cons.mpr ⟨lw_p2, List.forall_mem_cons.mpr ⟨lw_p3, List.forall_mem_cons.mpr ⟨lw_p4, List.forall_mem_cons.mpr ⟨lw_p5, List.forall_mem_cons.mpr ⟨lw_p6, List.forall_mem_cons.mpr ⟨lw_p7, List.forall_mem_cons.mpr ⟨lw_p8, List.forall_mem_cons.mpr ⟨lw_p9, List.forall_mem_cons.mpr ⟨lw_p10, List.forall_mem_cons.mpr ⟨lw_p11, List.forall_mem_cons.mpr ⟨lw_p12, List.forall_mem_cons.mpr ⟨lw_p13, List.forall_mem_cons.mpr ⟨lw_p14, List.forall_mem_cons.mpr ⟨lw_p15, fun _ h => absurd h List.not_mem_nil⟩⟩⟩⟩⟩⟩⟩⟩⟩⟩⟩⟩⟩⟩⟩⟩
theorem lw_p16 : lw_okq (⟨"FewPlaces", "tellAlone", "(I)I"⟩, 15) := ⟨⟨by decide +kernel, by decide +kernel⟩, List.mem_of_getElem? (i := 12) (by decide +kernel), List.mem_of_getElem? (i := 593) (by decide +kernel), List.mem_of_getElem? (i := 594) (by decide +kernel)⟩
theorem lw_p17 : lw_okq (⟨"FewPlaces", "leaveTrace", "(I)V"⟩, 15) := ⟨⟨by decide +kernel, by decide +kernel⟩, List.mem_of_getElem? (i := 12) (by decide +kernel), List.mem_of_getElem? (i := 597) (by decide +kernel), List.mem_of_getElem? (i := 598) (by decide +kernel)⟩
theorem lw_p18 : lw_okq (⟨"FewPlaces", "tellOfMany", "(I)I"⟩, 15) := ⟨⟨by decide +kernel, by decide +kernel⟩, List.mem_of_getElem? (i := 12) (by decide +kernel), List.mem_of_getElem? (i := 601) (by decide +kernel), List.mem_of_getElem? (i := 602) (by decide +kernel)⟩
theorem lw_p19 : lw_okq (⟨"FewPlaces", "tellAstray", "(I)I"⟩, 15) := ⟨⟨by decide +kernel, by decide +kernel⟩, List.mem_of_getElem? (i := 12) (by decide +kernel), List.mem_of_getElem? (i := 605) (by decide +kernel), List.mem_of_getElem? (i := 606) (by decide +kernel)⟩
theorem lw_p20 : lw_okq (⟨"FewPlaces", "countLent", "(I)I"⟩, 15) := ⟨⟨by decide +kernel, by decide +kernel⟩, List.mem_of_getElem? (i := 12) (by decide +kernel), List.mem_of_getElem? (i := 613) (by decide +kernel), List.mem_of_getElem? (i := 614) (by decide +kernel)⟩
theorem lw_p21 : lw_okq (⟨"FewPlaces", "countAstray", "()I"⟩, 15) := ⟨⟨by decide +kernel, by decide +kernel⟩, List.mem_of_getElem? (i := 12) (by decide +kernel), List.mem_of_getElem? (i := 617) (by decide +kernel), List.mem_of_getElem? (i := 618) (by decide +kernel)⟩
theorem lw_p22 : lw_okq (⟨"FewPlaces", "howManyKept", "()I"⟩, 15) := ⟨⟨by decide +kernel, by decide +kernel⟩, List.mem_of_getElem? (i := 12) (by decide +kernel), List.mem_of_getElem? (i := 637) (by decide +kernel), List.mem_of_getElem? (i := 638) (by decide +kernel)⟩
theorem lw_p23 : lw_okq (⟨"FewPlacesModel", "momentOf", "(II)V"⟩, 40) := ⟨⟨by decide +kernel, by decide +kernel⟩, List.mem_of_getElem? (i := 641) (by decide +kernel), List.mem_of_getElem? (i := 789) (by decide +kernel), List.mem_of_getElem? (i := 790) (by decide +kernel)⟩
theorem lw_p24 : lw_okq (⟨"FewPlacesModel", "fraction", "(JJ)V"⟩, 40) := ⟨⟨by decide +kernel, by decide +kernel⟩, List.mem_of_getElem? (i := 641) (by decide +kernel), List.mem_of_getElem? (i := 793) (by decide +kernel), List.mem_of_getElem? (i := 794) (by decide +kernel)⟩
theorem lw_p25 : lw_okq (⟨"FewPlacesModel", "part", "(I)J"⟩, 40) := ⟨⟨by decide +kernel, by decide +kernel⟩, List.mem_of_getElem? (i := 641) (by decide +kernel), List.mem_of_getElem? (i := 807) (by decide +kernel), List.mem_of_getElem? (i := 808) (by decide +kernel)⟩
theorem lw_p26 : lw_okq (⟨"FewPlacesModel", "sumOf", "(II)V"⟩, 40) := ⟨⟨by decide +kernel, by decide +kernel⟩, List.mem_of_getElem? (i := 641) (by decide +kernel), List.mem_of_getElem? (i := 815) (by decide +kernel), List.mem_of_getElem? (i := 816) (by decide +kernel)⟩
theorem lw_p27 : lw_okq (⟨"FewPlacesModel", "errorOf", "(II)V"⟩, 40) := ⟨⟨by decide +kernel, by decide +kernel⟩, List.mem_of_getElem? (i := 641) (by decide +kernel), List.mem_of_getElem? (i := 826) (by decide +kernel), List.mem_of_getElem? (i := 827) (by decide +kernel)⟩
theorem lw_p28 : lw_okq (⟨"FewPlacesModel", "add", "(JJ)V"⟩, 40) := ⟨⟨by decide +kernel, by decide +kernel⟩, List.mem_of_getElem? (i := 641) (by decide +kernel), List.mem_of_getElem? (i := 830) (by decide +kernel), List.mem_of_getElem? (i := 831) (by decide +kernel)⟩
theorem lw_p29 : lw_okq (⟨"FewPlacesModel", "against", "(III)I"⟩, 40) := ⟨⟨by decide +kernel, by decide +kernel⟩, List.mem_of_getElem? (i := 641) (by decide +kernel), List.mem_of_getElem? (i := 838) (by decide +kernel), List.mem_of_getElem? (i := 839) (by decide +kernel)⟩
theorem lw_p30 : lw_okq (⟨"FewPlacesModel", "placeAt", "(II)I"⟩, 40) := ⟨⟨by decide +kernel, by decide +kernel⟩, List.mem_of_getElem? (i := 641) (by decide +kernel), List.mem_of_getElem? (i := 851) (by decide +kernel), List.mem_of_getElem? (i := 852) (by decide +kernel)⟩
theorem lw_p31 : lw_okq (⟨"FewPlacesModel", "lay", "(III)I"⟩, 40) := ⟨⟨by decide +kernel, by decide +kernel⟩, List.mem_of_getElem? (i := 641) (by decide +kernel), List.mem_of_getElem? (i := 855) (by decide +kernel), List.mem_of_getElem? (i := 856) (by decide +kernel)⟩
def lw_privs_2 : List (MethodName × Nat) := [(⟨"FewPlaces", "tellAlone", "(I)I"⟩, 15), (⟨"FewPlaces", "leaveTrace", "(I)V"⟩, 15), (⟨"FewPlaces", "tellOfMany", "(I)I"⟩, 15), (⟨"FewPlaces", "tellAstray", "(I)I"⟩, 15), (⟨"FewPlaces", "countLent", "(I)I"⟩, 15), (⟨"FewPlaces", "countAstray", "()I"⟩, 15), (⟨"FewPlaces", "howManyKept", "()I"⟩, 15), (⟨"FewPlacesModel", "momentOf", "(II)V"⟩, 40), (⟨"FewPlacesModel", "fraction", "(JJ)V"⟩, 40), (⟨"FewPlacesModel", "part", "(I)J"⟩, 40), (⟨"FewPlacesModel", "sumOf", "(II)V"⟩, 40), (⟨"FewPlacesModel", "errorOf", "(II)V"⟩, 40), (⟨"FewPlacesModel", "add", "(JJ)V"⟩, 40), (⟨"FewPlacesModel", "against", "(III)I"⟩, 40), (⟨"FewPlacesModel", "placeAt", "(II)I"⟩, 40), (⟨"FewPlacesModel", "lay", "(III)I"⟩, 40)]
theorem lw_r2 : ∀ q ∈ lw_privs_2, lw_okq q := List.forall_mem_cons.mpr ⟨lw_p16, List.forall_mem_cons.mpr ⟨lw_p17, List.forall_mem_cons.mpr ⟨lw_p18, List.forall_mem_cons.mpr ⟨lw_p19, List.forall_mem_cons.mpr ⟨lw_p20, List.forall_mem_cons.mpr ⟨lw_p21, List.forall_mem_cons.mpr ⟨lw_p22, List.forall_mem_cons.mpr ⟨lw_p23, List.forall_mem_cons.mpr ⟨lw_p24, List.forall_mem_cons.mpr ⟨lw_p25, List.forall_mem_cons.mpr ⟨lw_p26, List.forall_mem_cons.mpr ⟨lw_p27, List.forall_mem_cons.mpr ⟨lw_p28, List.forall_mem_cons.mpr ⟨lw_p29, List.forall_mem_cons.mpr ⟨lw_p30, List.forall_mem_cons.mpr ⟨lw_p31, fun _ h => absurd h List.not_mem_nil⟩⟩⟩⟩⟩⟩⟩⟩⟩⟩⟩⟩⟩⟩⟩⟩
theorem lw_p32 : lw_okq (⟨"FewPlacesModel", "findOrbit", "(III)V"⟩, 40) := ⟨⟨by decide +kernel, by decide +kernel⟩, List.mem_of_getElem? (i := 641) (by decide +kernel), List.mem_of_getElem? (i := 863) (by decide +kernel), List.mem_of_getElem? (i := 864) (by decide +kernel)⟩
theorem lw_p33 : lw_okq (⟨"FewPlacesModel", "take", "(II)V"⟩, 40) := ⟨⟨by decide +kernel, by decide +kernel⟩, List.mem_of_getElem? (i := 641) (by decide +kernel), List.mem_of_getElem? (i := 867) (by decide +kernel), List.mem_of_getElem? (i := 868) (by decide +kernel)⟩
theorem lw_p34 : lw_okq (⟨"FewPlacesModel", "fails", "(I)I"⟩, 40) := ⟨⟨by decide +kernel, by decide +kernel⟩, List.mem_of_getElem? (i := 641) (by decide +kernel), List.mem_of_getElem? (i := 876) (by decide +kernel), List.mem_of_getElem? (i := 877) (by decide +kernel)⟩
theorem lw_p35 : lw_okq (⟨"FewPlacesModel", "isPlace", "(I)Z"⟩, 40) := ⟨⟨by decide +kernel, by decide +kernel⟩, List.mem_of_getElem? (i := 641) (by decide +kernel), List.mem_of_getElem? (i := 884) (by decide +kernel), List.mem_of_getElem? (i := 885) (by decide +kernel)⟩
theorem lw_p36 : lw_okq (⟨"FewPlacesModel", "orbitSize", "(I)I"⟩, 40) := ⟨⟨by decide +kernel, by decide +kernel⟩, List.mem_of_getElem? (i := 641) (by decide +kernel), List.mem_of_getElem? (i := 892) (by decide +kernel), List.mem_of_getElem? (i := 893) (by decide +kernel)⟩
theorem lw_p37 : lw_okq (⟨"FewPlacesModel", "isInside", "(I)Z"⟩, 40) := ⟨⟨by decide +kernel, by decide +kernel⟩, List.mem_of_getElem? (i := 641) (by decide +kernel), List.mem_of_getElem? (i := 896) (by decide +kernel), List.mem_of_getElem? (i := 897) (by decide +kernel)⟩
theorem lw_p38 : lw_okq (⟨"FewPlacesModel", "isIn", "(III)Z"⟩, 40) := ⟨⟨by decide +kernel, by decide +kernel⟩, List.mem_of_getElem? (i := 641) (by decide +kernel), List.mem_of_getElem? (i := 900) (by decide +kernel), List.mem_of_getElem? (i := 901) (by decide +kernel)⟩
theorem lw_p39 : lw_okq (⟨"FewPlacesModel", "isRight", "(I)Z"⟩, 40) := ⟨⟨by decide +kernel, by decide +kernel⟩, List.mem_of_getElem? (i := 641) (by decide +kernel), List.mem_of_getElem? (i := 908) (by decide +kernel), List.mem_of_getElem? (i := 909) (by decide +kernel)⟩
theorem lw_p40 : lw_okq (⟨"FewPlacesModel", "isEven", "(I)Z"⟩, 40) := ⟨⟨by decide +kernel, by decide +kernel⟩, List.mem_of_getElem? (i := 641) (by decide +kernel), List.mem_of_getElem? (i := 920) (by decide +kernel), List.mem_of_getElem? (i := 921) (by decide +kernel)⟩
theorem lw_p41 : lw_okq (⟨"FewPlacesModel", "putAside", "()V"⟩, 40) := ⟨⟨by decide +kernel, by decide +kernel⟩, List.mem_of_getElem? (i := 641) (by decide +kernel), List.mem_of_getElem? (i := 942) (by decide +kernel), List.mem_of_getElem? (i := 943) (by decide +kernel)⟩
theorem lw_p42 : lw_okq (⟨"FewPlacesModel", "findReps", "(I)V"⟩, 40) := ⟨⟨by decide +kernel, by decide +kernel⟩, List.mem_of_getElem? (i := 641) (by decide +kernel), List.mem_of_getElem? (i := 946) (by decide +kernel), List.mem_of_getElem? (i := 947) (by decide +kernel)⟩
theorem lw_p43 : lw_okq (⟨"FewPlacesModel", "farOf", "(III)I"⟩, 40) := ⟨⟨by decide +kernel, by decide +kernel⟩, List.mem_of_getElem? (i := 641) (by decide +kernel), List.mem_of_getElem? (i := 950) (by decide +kernel), List.mem_of_getElem? (i := 951) (by decide +kernel)⟩
theorem lw_p44 : lw_okq (⟨"FewPlacesModel", "haveWeights", "(III)Z"⟩, 40) := ⟨⟨by decide +kernel, by decide +kernel⟩, List.mem_of_getElem? (i := 641) (by decide +kernel), List.mem_of_getElem? (i := 954) (by decide +kernel), List.mem_of_getElem? (i := 955) (by decide +kernel)⟩
theorem lw_p45 : lw_okq (⟨"FewPlacesModel", "layPair", "(III)V"⟩, 40) := ⟨⟨by decide +kernel, by decide +kernel⟩, List.mem_of_getElem? (i := 641) (by decide +kernel), List.mem_of_getElem? (i := 959) (by decide +kernel), List.mem_of_getElem? (i := 960) (by decide +kernel)⟩
theorem lw_p46 : lw_okq (⟨"FewPlacesModel", "takeBack", "()V"⟩, 40) := ⟨⟨by decide +kernel, by decide +kernel⟩, List.mem_of_getElem? (i := 641) (by decide +kernel), List.mem_of_getElem? (i := 963) (by decide +kernel), List.mem_of_getElem? (i := 964) (by decide +kernel)⟩
theorem lw_p47 : lw_okq (⟨"FewPlacesModel", "valueAt", "(JJJ)J"⟩, 40) := ⟨⟨by decide +kernel, by decide +kernel⟩, List.mem_of_getElem? (i := 641) (by decide +kernel), List.mem_of_getElem? (i := 985) (by decide +kernel), List.mem_of_getElem? (i := 986) (by decide +kernel)⟩
def lw_privs_3 : List (MethodName × Nat) := [(⟨"FewPlacesModel", "findOrbit", "(III)V"⟩, 40), (⟨"FewPlacesModel", "take", "(II)V"⟩, 40), (⟨"FewPlacesModel", "fails", "(I)I"⟩, 40), (⟨"FewPlacesModel", "isPlace", "(I)Z"⟩, 40), (⟨"FewPlacesModel", "orbitSize", "(I)I"⟩, 40), (⟨"FewPlacesModel", "isInside", "(I)Z"⟩, 40), (⟨"FewPlacesModel", "isIn", "(III)Z"⟩, 40), (⟨"FewPlacesModel", "isRight", "(I)Z"⟩, 40), (⟨"FewPlacesModel", "isEven", "(I)Z"⟩, 40), (⟨"FewPlacesModel", "putAside", "()V"⟩, 40), (⟨"FewPlacesModel", "findReps", "(I)V"⟩, 40), (⟨"FewPlacesModel", "farOf", "(III)I"⟩, 40), (⟨"FewPlacesModel", "haveWeights", "(III)Z"⟩, 40), (⟨"FewPlacesModel", "layPair", "(III)V"⟩, 40), (⟨"FewPlacesModel", "takeBack", "()V"⟩, 40), (⟨"FewPlacesModel", "valueAt", "(JJJ)J"⟩, 40)]
theorem lw_r3 : ∀ q ∈ lw_privs_3, lw_okq q := List.forall_mem_cons.mpr ⟨lw_p32, List.forall_mem_cons.mpr ⟨lw_p33, List.forall_mem_cons.mpr ⟨lw_p34, List.forall_mem_cons.mpr ⟨lw_p35, List.forall_mem_cons.mpr ⟨lw_p36, List.forall_mem_cons.mpr ⟨lw_p37, List.forall_mem_cons.mpr ⟨lw_p38, List.forall_mem_cons.mpr ⟨lw_p39, List.forall_mem_cons.mpr ⟨lw_p40, List.forall_mem_cons.mpr ⟨lw_p41, List.forall_mem_cons.mpr ⟨lw_p42, List.forall_mem_cons.mpr ⟨lw_p43, List.forall_mem_cons.mpr ⟨lw_p44, List.forall_mem_cons.mpr ⟨lw_p45, List.forall_mem_cons.mpr ⟨lw_p46, List.forall_mem_cons.mpr ⟨lw_p47, fun _ h => absurd h List.not_mem_nil⟩⟩⟩⟩⟩⟩⟩⟩⟩⟩⟩⟩⟩⟩⟩⟩
theorem lw_p48 : lw_okq (⟨"FewPlacesModel", "lost", "(I)J"⟩, 40) := ⟨⟨by decide +kernel, by decide +kernel⟩, List.mem_of_getElem? (i := 641) (by decide +kernel), List.mem_of_getElem? (i := 1005) (by decide +kernel), List.mem_of_getElem? (i := 1006) (by decide +kernel)⟩
theorem lw_p49 : lw_okq (⟨"FewPlacesModel", "begins", "(I)V"⟩, 40) := ⟨⟨by decide +kernel, by decide +kernel⟩, List.mem_of_getElem? (i := 641) (by decide +kernel), List.mem_of_getElem? (i := 1013) (by decide +kernel), List.mem_of_getElem? (i := 1014) (by decide +kernel)⟩
def lw_privs_4 : List (MethodName × Nat) := [(⟨"FewPlacesModel", "lost", "(I)J"⟩, 40), (⟨"FewPlacesModel", "begins", "(I)V"⟩, 40)]
theorem lw_r4 : ∀ q ∈ lw_privs_4, lw_okq q := List.forall_mem_cons.mpr ⟨lw_p48, List.forall_mem_cons.mpr ⟨lw_p49, fun _ h => absurd h List.not_mem_nil⟩⟩
def lw_privs : List (MethodName × Nat) := lw_privs_1 ++ (lw_privs_2 ++ (lw_privs_3 ++ (lw_privs_4)))
def lw_tbl : List Cond := k2_sels lw_privs ++ tables_1
theorem lw_privs_ok : ∀ q ∈ lw_privs, lw_okq q := by
  show ∀ q ∈ lw_privs_1 ++ (lw_privs_2 ++ (lw_privs_3 ++ (lw_privs_4))), lw_okq q
  exact List.forall_mem_append.mpr ⟨lw_r1, List.forall_mem_append.mpr ⟨lw_r2, List.forall_mem_append.mpr ⟨lw_r3, lw_r4⟩⟩⟩
/-! ===== BEGIN printed: names, fields, word lists, decode rows ===== -/
def RX0 : String := "FewPlaces$Fraction"
def TX0 : u_T := fun k => match k with
  | 0 => ("FewPlaces$Fraction", "upper", "J", false)
  | _ => ("FewPlaces$Fraction", "lower", "J", false)
def tyX0 : Nat → FieldType := fun k => match k with
  | 0 => .long
  | _ => .long
abbrev wsX00 : List Cond := u_ws RX0 TX0 2
theorem nmX0 : ∀ a, a < 2 → ∀ b, b < 2 → a ≠ b → (TX0 a).2.1 ≠ (TX0 b).2.1 := by decide +kernel
theorem tyX0_ok : ∀ k, k < 2 → parseFieldDescriptor (TX0 k).2.2.1 = some (tyX0 k) := by decide +kernel
abbrev cX0_init : ByteArray := prog_2_method_1_code
def yX0_init : MethodName := ⟨RX0, "<init>", "()V"⟩
abbrev cX0_become : ByteArray := prog_2_method_2_code
def yX0_become : MethodName := ⟨RX0, "become", "(JJ)V"⟩
abbrev cX0_addTimes : ByteArray := prog_2_method_3_code
def yX0_addTimes : MethodName := ⟨RX0, "addTimes", "(JLFewPlaces$Fraction;)V"⟩
abbrev cX0_becomeMoment : ByteArray := prog_2_method_4_code
def yX0_becomeMoment : MethodName := ⟨RX0, "becomeMoment", "(III)V"⟩
abbrev cX0_showing : ByteArray := prog_2_method_5_code
def yX0_showing : MethodName := ⟨RX0, "showing", "(I)J"⟩
def RX1 : String := "FewPlaces$Grid"
def TX1 : u_T := fun k => match k with
  | 0 => ("FewPlaces$Grid", "domain", "I", false)
  | 1 => ("FewPlaces$Grid", "q", "I", false)
  | 2 => ("FewPlaces$Grid", "size", "I", false)
  | 3 => ("FewPlaces$Grid", "xs", "[I", true)
  | 4 => ("FewPlaces$Grid", "ys", "[I", true)
  | 5 => ("FewPlaces$Grid", "counts", "[I", true)
  | 6 => ("FewPlaces$Grid", "radii", "[I", true)
  | 7 => ("FewPlaces$Grid", "powerSums", "[[J", true)
  | 8 => ("FewPlaces$Grid", "dueUpper", "[J", true)
  | 9 => ("FewPlaces$Grid", "dueLower", "[J", true)
  | 10 => ("FewPlaces$Grid", "powersOfX", "[J", true)
  | 11 => ("FewPlaces$Grid", "powersOfY", "[J", true)
  | 12 => ("FewPlaces$Grid", "one", "LFewPlaces$Fraction;", true)
  | 13 => ("FewPlaces$Grid", "other", "LFewPlaces$Fraction;", true)
  | 14 => ("FewPlaces$Grid", "firstWeight", "J", false)
  | 15 => ("FewPlaces$Grid", "secondWeight", "J", false)
  | 16 => ("FewPlaces$Grid", "lower", "J", false)
  | 17 => ("FewPlaces$Grid", "bestFirst", "I", false)
  | _ => ("FewPlaces$Grid", "bestSecond", "I", false)
def tyX1 : Nat → FieldType := fun k => match k with
  | 0 => .int
  | 1 => .int
  | 2 => .int
  | 3 => .array .int
  | 4 => .array .int
  | 5 => .array .int
  | 6 => .array .int
  | 7 => .array (.array .long)
  | 8 => .array .long
  | 9 => .array .long
  | 10 => .array .long
  | 11 => .array .long
  | 12 => .object "FewPlaces$Fraction"
  | 13 => .object "FewPlaces$Fraction"
  | 14 => .long
  | 15 => .long
  | 16 => .long
  | 17 => .int
  | _ => .int
abbrev wsX10 : List Cond := u_ws RX1 TX1 19
theorem nmX1 : ∀ a, a < 19 → ∀ b, b < 19 → a ≠ b → (TX1 a).2.1 ≠ (TX1 b).2.1 := by decide +kernel
theorem tyX1_ok : ∀ k, k < 19 → parseFieldDescriptor (TX1 k).2.2.1 = some (tyX1 k) := by decide +kernel
abbrev cX1_init : ByteArray := prog_3_method_1_code
def yX1_init : MethodName := ⟨RX1, "<init>", "()V"⟩
abbrev cX1_gather : ByteArray := prog_3_method_2_code
def yX1_gather : MethodName := ⟨RX1, "gather", "(IILFewPlaces$Orbit;)V"⟩
abbrev cX1_isLeastOfOrbit : ByteArray := prog_3_method_3_code
def yX1_isLeastOfOrbit : MethodName := ⟨RX1, "isLeastOfOrbit", "(II)Z"⟩
abbrev cX1_append : ByteArray := prog_3_method_4_code
def yX1_append : MethodName := ⟨RX1, "append", "(IILFewPlaces$Orbit;)V"⟩
abbrev cX1_addPowers : ByteArray := prog_3_method_5_code
def yX1_addPowers : MethodName := ⟨RX1, "addPowers", "([JII)V"⟩
abbrev cX1_findFewest : ByteArray := prog_3_method_6_code
def yX1_findFewest : MethodName := ⟨RX1, "findFewest", "(I)Z"⟩
abbrev cX1_weigh : ByteArray := prog_3_method_7_code
def yX1_weigh : MethodName := ⟨RX1, "weigh", "(II)Z"⟩
abbrev cX1_bringToOneLower : ByteArray := prog_3_method_8_code
def yX1_bringToOneLower : MethodName := ⟨RX1, "bringToOneLower", "()Z"⟩
abbrev cX1_isRightUpTo : ByteArray := prog_3_method_9_code
def yX1_isRightUpTo : MethodName := ⟨RX1, "isRightUpTo", "(III)Z"⟩
def RX2 : String := "FewPlaces$Orbit"
def TX2 : u_T := fun k => match k with
  | 0 => ("FewPlaces$Orbit", "xs", "[I", true)
  | 1 => ("FewPlaces$Orbit", "ys", "[I", true)
  | _ => ("FewPlaces$Orbit", "size", "I", false)
def tyX2 : Nat → FieldType := fun k => match k with
  | 0 => .array .int
  | 1 => .array .int
  | _ => .int
abbrev wsX20 : List Cond := u_ws RX2 TX2 3
theorem nmX2 : ∀ a, a < 3 → ∀ b, b < 3 → a ≠ b → (TX2 a).2.1 ≠ (TX2 b).2.1 := by decide +kernel
theorem tyX2_ok : ∀ k, k < 3 → parseFieldDescriptor (TX2 k).2.2.1 = some (tyX2 k) := by decide +kernel
abbrev cX2_init : ByteArray := prog_4_method_1_code
def yX2_init : MethodName := ⟨RX2, "<init>", "()V"⟩
abbrev cX2_gather : ByteArray := prog_4_method_2_code
def yX2_gather : MethodName := ⟨RX2, "gather", "(IIII)V"⟩
abbrev cX2_insertBothWays : ByteArray := prog_4_method_3_code
def yX2_insertBothWays : MethodName := ⟨RX2, "insertBothWays", "(II)V"⟩
abbrev cX2_insert : ByteArray := prog_4_method_4_code
def yX2_insert : MethodName := ⟨RX2, "insert", "(II)V"⟩
abbrev cX2_isAhead : ByteArray := prog_4_method_5_code
def yX2_isAhead : MethodName := ⟨RX2, "isAhead", "(III)Z"⟩
def RX3 : String := "FewPlaces$Rule"
def TX3 : u_T := fun k => match k with
  | 0 => ("FewPlaces$Rule", "domain", "I", false)
  | 1 => ("FewPlaces$Rule", "q", "I", false)
  | 2 => ("FewPlaces$Rule", "w", "I", false)
  | 3 => ("FewPlaces$Rule", "size", "I", false)
  | 4 => ("FewPlaces$Rule", "xs", "[I", true)
  | 5 => ("FewPlaces$Rule", "ys", "[I", true)
  | _ => ("FewPlaces$Rule", "weights", "[I", true)
def tyX3 : Nat → FieldType := fun k => match k with
  | 0 => .int
  | 1 => .int
  | 2 => .int
  | 3 => .int
  | 4 => .array .int
  | 5 => .array .int
  | _ => .array .int
abbrev wsX30 : List Cond := u_ws RX3 TX3 7
theorem nmX3 : ∀ a, a < 7 → ∀ b, b < 7 → a ≠ b → (TX3 a).2.1 ≠ (TX3 b).2.1 := by decide +kernel
theorem tyX3_ok : ∀ k, k < 7 → parseFieldDescriptor (TX3 k).2.2.1 = some (tyX3 k) := by decide +kernel
abbrev cX3_init : ByteArray := prog_5_method_1_code
def yX3_init : MethodName := ⟨RX3, "<init>", "()V"⟩
abbrev cX3_startAnew : ByteArray := prog_5_method_2_code
def yX3_startAnew : MethodName := ⟨RX3, "startAnew", "(III)V"⟩
abbrev cX3_copyFrom : ByteArray := prog_5_method_3_code
def yX3_copyFrom : MethodName := ⟨RX3, "copyFrom", "(LFewPlaces$Rule;)V"⟩
abbrev cX3_has : ByteArray := prog_5_method_4_code
def yX3_has : MethodName := ⟨RX3, "has", "(I)Z"⟩
abbrev cX3_isWithin : ByteArray := prog_5_method_5_code
def yX3_isWithin : MethodName := ⟨RX3, "isWithin", "(I)Z"⟩
abbrev cX3_numberOf : ByteArray := prog_5_method_6_code
def yX3_numberOf : MethodName := ⟨RX3, "numberOf", "(II)I"⟩
abbrev cX3_refusalOutside : ByteArray := prog_5_method_7_code
def yX3_refusalOutside : MethodName := ⟨RX3, "refusalOutside", "(III)I"⟩
abbrev cX3_add : ByteArray := prog_5_method_8_code
def yX3_add : MethodName := ⟨RX3, "add", "(III)I"⟩
abbrev cX3_addAll : ByteArray := prog_5_method_9_code
def yX3_addAll : MethodName := ⟨RX3, "addAll", "(LFewPlaces$Orbit;I)V"⟩
abbrev cX3_takeOut : ByteArray := prog_5_method_10_code
def yX3_takeOut : MethodName := ⟨RX3, "takeOut", "(I)V"⟩
abbrev cX3_weighedPowers : ByteArray := prog_5_method_11_code
def yX3_weighedPowers : MethodName := ⟨RX3, "weighedPowers", "(II)J"⟩
def RX4 : String := "FewPlaces$Sheet"
def TX4 : u_T := fun k => match k with
  | 0 => ("FewPlaces$Sheet", "lane", "I", false)
  | 1 => ("FewPlaces$Sheet", "length", "I", false)
  | _ => ("FewPlaces$Sheet", "cells", "[I", true)
def tyX4 : Nat → FieldType := fun k => match k with
  | 0 => .int
  | 1 => .int
  | _ => .array .int
abbrev wsX40 : List Cond := u_ws RX4 TX4 3
theorem nmX4 : ∀ a, a < 3 → ∀ b, b < 3 → a ≠ b → (TX4 a).2.1 ≠ (TX4 b).2.1 := by decide +kernel
theorem tyX4_ok : ∀ k, k < 3 → parseFieldDescriptor (TX4 k).2.2.1 = some (tyX4 k) := by decide +kernel
abbrev cX4_init : ByteArray := prog_6_method_1_code
def yX4_init : MethodName := ⟨RX4, "<init>", "()V"⟩
abbrev cX4_renew : ByteArray := prog_6_method_2_code
def yX4_renew : MethodName := ⟨RX4, "renew", "(II)V"⟩
abbrev cX4_empty : ByteArray := prog_6_method_3_code
def yX4_empty : MethodName := ⟨RX4, "empty", "()V"⟩
abbrev cX4_hasNothing : ByteArray := prog_6_method_4_code
def yX4_hasNothing : MethodName := ⟨RX4, "hasNothing", "()Z"⟩
abbrev cX4_isOfOtherLane : ByteArray := prog_6_method_5_code
def yX4_isOfOtherLane : MethodName := ⟨RX4, "isOfOtherLane", "(I)Z"⟩
abbrev cX4_hasCells : ByteArray := prog_6_method_6_code
def yX4_hasCells : MethodName := ⟨RX4, "hasCells", "(IJ)Z"⟩
abbrev cX4_write : ByteArray := prog_6_method_7_code
def yX4_write : MethodName := ⟨RX4, "write", "(II)V"⟩
def RX5 : String := "FewPlaces"
def TX5 : u_T := fun k => match k with
  | 0 => ("FewPlaces", "rule", "LFewPlaces$Rule;", true)
  | 1 => ("FewPlaces", "trial", "LFewPlaces$Rule;", true)
  | 2 => ("FewPlaces", "turned", "LFewPlaces$Orbit;", true)
  | 3 => ("FewPlaces", "grid", "LFewPlaces$Grid;", true)
  | 4 => ("FewPlaces", "answer", "LFewPlaces$Fraction;", true)
  | 5 => ("FewPlaces", "part", "LFewPlaces$Fraction;", true)
  | 6 => ("FewPlaces", "keptRules", "[LFewPlaces$Rule;", true)
  | 7 => ("FewPlaces", "isKept", "[Z", true)
  | 8 => ("FewPlaces", "coefficients", "[I", true)
  | 9 => ("FewPlaces", "powersOfX", "[J", true)
  | 10 => ("FewPlaces", "powersOfY", "[J", true)
  | 11 => ("FewPlaces", "powersOfLower", "[J", true)
  | 12 => ("FewPlaces", "sheets", "[LFewPlaces$Sheet;", true)
  | 13 => ("FewPlaces", "traced", "I", false)
  | _ => ("FewPlaces", "latestFault", "I", false)
def tyX5 : Nat → FieldType := fun k => match k with
  | 0 => .object "FewPlaces$Rule"
  | 1 => .object "FewPlaces$Rule"
  | 2 => .object "FewPlaces$Orbit"
  | 3 => .object "FewPlaces$Grid"
  | 4 => .object "FewPlaces$Fraction"
  | 5 => .object "FewPlaces$Fraction"
  | 6 => .array (.object "FewPlaces$Rule")
  | 7 => .array .boolean
  | 8 => .array .int
  | 9 => .array .long
  | 10 => .array .long
  | 11 => .array .long
  | 12 => .array (.object "FewPlaces$Sheet")
  | 13 => .int
  | _ => .int
abbrev wsX50 : List Cond := u_ws RX5 TX5 15
theorem nmX5 : ∀ a, a < 15 → ∀ b, b < 15 → a ≠ b → (TX5 a).2.1 ≠ (TX5 b).2.1 := by decide +kernel
theorem tyX5_ok : ∀ k, k < 15 → parseFieldDescriptor (TX5 k).2.2.1 = some (tyX5 k) := by decide +kernel
abbrev cX5_init : ByteArray := prog_1_method_1_code
def yX5_init : MethodName := ⟨RX5, "<init>", "()V"⟩
abbrev cX5_begin : ByteArray := prog_1_method_2_code
def yX5_begin : MethodName := ⟨RX5, "begin", "(III)I"⟩
abbrev cX5_moment : ByteArray := prog_1_method_3_code
def yX5_moment : MethodName := ⟨RX5, "moment", "(III)J"⟩
abbrev cX5_place : ByteArray := prog_1_method_4_code
def yX5_place : MethodName := ⟨RX5, "place", "(III)I"⟩
abbrev cX5_orbit : ByteArray := prog_1_method_5_code
def yX5_orbit : MethodName := ⟨RX5, "orbit", "(III)I"⟩
abbrev cX5_places : ByteArray := prog_1_method_6_code
def yX5_places : MethodName := ⟨RX5, "places", "(IIII)I"⟩
abbrev cX5_drop : ByteArray := prog_1_method_7_code
def yX5_drop : MethodName := ⟨RX5, "drop", "(I)I"⟩
abbrev cX5_about : ByteArray := prog_1_method_8_code
def yX5_about : MethodName := ⟨RX5, "about", "(II)I"⟩
abbrev cX5_sum : ByteArray := prog_1_method_9_code
def yX5_sum : MethodName := ⟨RX5, "sum", "(III)J"⟩
abbrev cX5_error : ByteArray := prog_1_method_10_code
def yX5_error : MethodName := ⟨RX5, "error", "(III)J"⟩
abbrev cX5_degree : ByteArray := prog_1_method_11_code
def yX5_degree : MethodName := ⟨RX5, "degree", "()I"⟩
abbrev cX5_first : ByteArray := prog_1_method_12_code
def yX5_first : MethodName := ⟨RX5, "first", "(I)I"⟩
abbrev cX5_is : ByteArray := prog_1_method_13_code
def yX5_is : MethodName := ⟨RX5, "is", "(I)I"⟩
abbrev cX5_least : ByteArray := prog_1_method_14_code
def yX5_least : MethodName := ⟨RX5, "least", "(I)I"⟩
abbrev cX5_keep : ByteArray := prog_1_method_15_code
def yX5_keep : MethodName := ⟨RX5, "keep", "(I)I"⟩
abbrev cX5_load : ByteArray := prog_1_method_16_code
def yX5_load : MethodName := ⟨RX5, "load", "(I)I"⟩
abbrev cX5_pair : ByteArray := prog_1_method_17_code
def yX5_pair : MethodName := ⟨RX5, "pair", "(II)I"⟩
abbrev cX5_term : ByteArray := prog_1_method_18_code
def yX5_term : MethodName := ⟨RX5, "term", "(II)J"⟩
abbrev cX5_whole : ByteArray := prog_1_method_19_code
def yX5_whole : MethodName := ⟨RX5, "whole", "(I)J"⟩
abbrev cX5_byRule : ByteArray := prog_1_method_20_code
def yX5_byRule : MethodName := ⟨RX5, "byRule", "(II)J"⟩
abbrev cX5_sheet : ByteArray := prog_1_method_21_code
def yX5_sheet : MethodName := ⟨RX5, "sheet", "(III)I"⟩
abbrev cX5_lose : ByteArray := prog_1_method_22_code
def yX5_lose : MethodName := ⟨RX5, "lose", "(I)I"⟩
abbrev cX5_put : ByteArray := prog_1_method_23_code
def yX5_put : MethodName := ⟨RX5, "put", "(III)I"⟩
abbrev cX5_at : ByteArray := prog_1_method_24_code
def yX5_at : MethodName := ⟨RX5, "at", "(III)J"⟩
abbrev cX5_tell : ByteArray := prog_1_method_25_code
def yX5_tell : MethodName := ⟨RX5, "tell", "(I)I"⟩
abbrev cX5_count : ByteArray := prog_1_method_26_code
def yX5_count : MethodName := ⟨RX5, "count", "(I)I"⟩
abbrev cX5_as : ByteArray := prog_1_method_27_code
def yX5_as : MethodName := ⟨RX5, "as", "(II)I"⟩
abbrev cX5_trace : ByteArray := prog_1_method_28_code
def yX5_trace : MethodName := ⟨RX5, "trace", "()I"⟩
abbrev cX5_fault : ByteArray := prog_1_method_29_code
def yX5_fault : MethodName := ⟨RX5, "fault", "()I"⟩
abbrev cX5_told : ByteArray := prog_1_method_30_code
def yX5_told : MethodName := ⟨RX5, "told", "(I)I"⟩
abbrev cX5_isFrom : ByteArray := prog_1_method_31_code
def yX5_isFrom : MethodName := ⟨RX5, "isFrom", "(III)Z"⟩
abbrev cX5_arePowers : ByteArray := prog_1_method_32_code
def yX5_arePowers : MethodName := ⟨RX5, "arePowers", "(II)Z"⟩
abbrev cX5_power : ByteArray := prog_1_method_33_code
def yX5_power : MethodName := ⟨RX5, "power", "(JI)J"⟩
abbrev cX5_fillPowers : ByteArray := prog_1_method_34_code
def yX5_fillPowers : MethodName := ⟨RX5, "fillPowers", "(J[J)V"⟩
abbrev cX5_commonDivisor : ByteArray := prog_1_method_35_code
def yX5_commonDivisor : MethodName := ⟨RX5, "commonDivisor", "(JJ)J"⟩
abbrev cX5_liesIn : ByteArray := prog_1_method_36_code
def yX5_liesIn : MethodName := ⟨RX5, "liesIn", "(IIII)Z"⟩
abbrev cX5_failed : ByteArray := prog_1_method_37_code
def yX5_failed : MethodName := ⟨RX5, "failed", "(I)I"⟩
abbrev cX5_refusalOfOrbit : ByteArray := prog_1_method_38_code
def yX5_refusalOfOrbit : MethodName := ⟨RX5, "refusalOfOrbit", "(I)I"⟩
abbrev cX5_addFrom : ByteArray := prog_1_method_39_code
def yX5_addFrom : MethodName := ⟨RX5, "addFrom", "(LFewPlaces$Sheet;II)I"⟩
abbrev cX5_sizeOfOrbit : ByteArray := prog_1_method_40_code
def yX5_sizeOfOrbit : MethodName := ⟨RX5, "sizeOfOrbit", "(I)I"⟩
abbrev cX5_findSum : ByteArray := prog_1_method_41_code
def yX5_findSum : MethodName := ⟨RX5, "findSum", "(II)V"⟩
abbrev cX5_findError : ByteArray := prog_1_method_42_code
def yX5_findError : MethodName := ⟨RX5, "findError", "(II)V"⟩
abbrev cX5_firstWrongTerm : ByteArray := prog_1_method_43_code
def yX5_firstWrongTerm : MethodName := ⟨RX5, "firstWrongTerm", "()I"⟩
abbrev cX5_areAllWithin : ByteArray := prog_1_method_44_code
def yX5_areAllWithin : MethodName := ⟨RX5, "areAllWithin", "()Z"⟩
abbrev cX5_areAllAbove : ByteArray := prog_1_method_45_code
def yX5_areAllAbove : MethodName := ⟨RX5, "areAllAbove", "()Z"⟩
abbrev cX5_isEven : ByteArray := prog_1_method_46_code
def yX5_isEven : MethodName := ⟨RX5, "isEven", "()Z"⟩
abbrev cX5_isOrbitOfWeight : ByteArray := prog_1_method_47_code
def yX5_isOrbitOfWeight : MethodName := ⟨RX5, "isOrbitOfWeight", "(I)Z"⟩
abbrev cX5_becomePair : ByteArray := prog_1_method_48_code
def yX5_becomePair : MethodName := ⟨RX5, "becomePair", "(II)V"⟩
abbrev cX5_findSumOfCut : ByteArray := prog_1_method_49_code
def yX5_findSumOfCut : MethodName := ⟨RX5, "findSumOfCut", "(I)V"⟩
abbrev cX5_sumMoved : ByteArray := prog_1_method_50_code
def yX5_sumMoved : MethodName := ⟨RX5, "sumMoved", "(II)J"⟩
abbrev cX5_valueAt : ByteArray := prog_1_method_51_code
def yX5_valueAt : MethodName := ⟨RX5, "valueAt", "(II)J"⟩
abbrev cX5_faultOfReading : ByteArray := prog_1_method_52_code
def yX5_faultOfReading : MethodName := ⟨RX5, "faultOfReading", "(LFewPlaces$Sheet;II)I"⟩
abbrev cX5_kindOf : ByteArray := prog_1_method_53_code
def yX5_kindOf : MethodName := ⟨RX5, "kindOf", "(I)I"⟩
abbrev cX5_leaveTrace : ByteArray := prog_1_method_54_code
def yX5_leaveTrace : MethodName := ⟨RX5, "leaveTrace", "(I)V"⟩
abbrev cX5_tellAlone : ByteArray := prog_1_method_55_code
def yX5_tellAlone : MethodName := ⟨RX5, "tellAlone", "(I)I"⟩
abbrev cX5_tellOfMany : ByteArray := prog_1_method_56_code
def yX5_tellOfMany : MethodName := ⟨RX5, "tellOfMany", "(I)I"⟩
abbrev cX5_tellAstray : ByteArray := prog_1_method_57_code
def yX5_tellAstray : MethodName := ⟨RX5, "tellAstray", "(I)I"⟩
abbrev cX5_countLent : ByteArray := prog_1_method_58_code
def yX5_countLent : MethodName := ⟨RX5, "countLent", "(I)I"⟩
abbrev cX5_countAstray : ByteArray := prog_1_method_59_code
def yX5_countAstray : MethodName := ⟨RX5, "countAstray", "()I"⟩
abbrev cX5_howManyKept : ByteArray := prog_1_method_60_code
def yX5_howManyKept : MethodName := ⟨RX5, "howManyKept", "()I"⟩
def RX6 : String := "FewPlacesModel"
def TX6 : u_T := fun k => match k with
  | 0 => ("FewPlacesModel", "fault", "I", false)
  | 1 => ("FewPlacesModel", "trace", "I", false)
  | 2 => ("FewPlacesModel", "up", "J", false)
  | 3 => ("FewPlacesModel", "down", "J", false)
  | 4 => ("FewPlacesModel", "domain", "I", false)
  | 5 => ("FewPlacesModel", "lowerQ", "I", false)
  | 6 => ("FewPlacesModel", "lowerW", "I", false)
  | 7 => ("FewPlacesModel", "places", "I", false)
  | 8 => ("FewPlacesModel", "placeX", "[I", true)
  | 9 => ("FewPlacesModel", "placeY", "[I", true)
  | 10 => ("FewPlacesModel", "weight", "[I", true)
  | 11 => ("FewPlacesModel", "orbitX", "[I", true)
  | 12 => ("FewPlacesModel", "orbitY", "[I", true)
  | 13 => ("FewPlacesModel", "orbitMany", "I", false)
  | 14 => ("FewPlacesModel", "lanes", "[I", true)
  | 15 => ("FewPlacesModel", "sheetLong", "[I", true)
  | 16 => ("FewPlacesModel", "cells", "[I", true)
  | 17 => ("FewPlacesModel", "keptWeight", "[I", true)
  | 18 => ("FewPlacesModel", "keptMany", "[I", true)
  | 19 => ("FewPlacesModel", "keptDomain", "[I", true)
  | 20 => ("FewPlacesModel", "keptQ", "[I", true)
  | 21 => ("FewPlacesModel", "keptW", "[I", true)
  | 22 => ("FewPlacesModel", "keptX", "[I", true)
  | 23 => ("FewPlacesModel", "keptY", "[I", true)
  | 24 => ("FewPlacesModel", "keptWeights", "[I", true)
  | 25 => ("FewPlacesModel", "repX", "[I", true)
  | 26 => ("FewPlacesModel", "repY", "[I", true)
  | 27 => ("FewPlacesModel", "repMany", "[I", true)
  | 28 => ("FewPlacesModel", "repFar", "[I", true)
  | 29 => ("FewPlacesModel", "reps", "I", false)
  | 30 => ("FewPlacesModel", "pairW", "J", false)
  | 31 => ("FewPlacesModel", "pairFirst", "J", false)
  | 32 => ("FewPlacesModel", "pairSecond", "J", false)
  | 33 => ("FewPlacesModel", "hadMany", "I", false)
  | 34 => ("FewPlacesModel", "hadQ", "I", false)
  | 35 => ("FewPlacesModel", "hadW", "I", false)
  | 36 => ("FewPlacesModel", "hadX", "[I", true)
  | 37 => ("FewPlacesModel", "hadY", "[I", true)
  | 38 => ("FewPlacesModel", "hadWeight", "[I", true)
  | _ => ("FewPlacesModel", "coefficient", "[I", true)
def tyX6 : Nat → FieldType := fun k => match k with
  | 0 => .int
  | 1 => .int
  | 2 => .long
  | 3 => .long
  | 4 => .int
  | 5 => .int
  | 6 => .int
  | 7 => .int
  | 8 => .array .int
  | 9 => .array .int
  | 10 => .array .int
  | 11 => .array .int
  | 12 => .array .int
  | 13 => .int
  | 14 => .array .int
  | 15 => .array .int
  | 16 => .array .int
  | 17 => .array .int
  | 18 => .array .int
  | 19 => .array .int
  | 20 => .array .int
  | 21 => .array .int
  | 22 => .array .int
  | 23 => .array .int
  | 24 => .array .int
  | 25 => .array .int
  | 26 => .array .int
  | 27 => .array .int
  | 28 => .array .int
  | 29 => .int
  | 30 => .long
  | 31 => .long
  | 32 => .long
  | 33 => .int
  | 34 => .int
  | 35 => .int
  | 36 => .array .int
  | 37 => .array .int
  | 38 => .array .int
  | _ => .array .int
abbrev wsX60 : List Cond := u_ws RX6 TX6 40
theorem nmX6 : ∀ a, a < 40 → ∀ b, b < 40 → a ≠ b → (TX6 a).2.1 ≠ (TX6 b).2.1 := by decide +kernel
theorem tyX6_ok : ∀ k, k < 40 → parseFieldDescriptor (TX6 k).2.2.1 = some (tyX6 k) := by decide +kernel
abbrev cX6_init : ByteArray := prog_8_method_1_code
def yX6_init : MethodName := ⟨RX6, "<init>", "()V"⟩
abbrev cX6_fails : ByteArray := prog_8_method_3_code
def yX6_fails : MethodName := ⟨RX6, "fails", "(I)I"⟩
abbrev cX6_lost : ByteArray := prog_8_method_4_code
def yX6_lost : MethodName := ⟨RX6, "lost", "(I)J"⟩
abbrev cX6_within : ByteArray := prog_8_method_5_code
def yX6_within : MethodName := ⟨RX6, "within", "(JJJ)Z"⟩
abbrev cX6_size : ByteArray := prog_8_method_6_code
def yX6_size : MethodName := ⟨RX6, "size", "(J)J"⟩
abbrev cX6_common : ByteArray := prog_8_method_7_code
def yX6_common : MethodName := ⟨RX6, "common", "(JJ)J"⟩
abbrev cX6_fraction : ByteArray := prog_8_method_8_code
def yX6_fraction : MethodName := ⟨RX6, "fraction", "(JJ)V"⟩
abbrev cX6_add : ByteArray := prog_8_method_9_code
def yX6_add : MethodName := ⟨RX6, "add", "(JJ)V"⟩
abbrev cX6_part : ByteArray := prog_8_method_10_code
def yX6_part : MethodName := ⟨RX6, "part", "(I)J"⟩
abbrev cX6_power : ByteArray := prog_8_method_11_code
def yX6_power : MethodName := ⟨RX6, "power", "(JI)J"⟩
abbrev cX6_factorial : ByteArray := prog_8_method_12_code
def yX6_factorial : MethodName := ⟨RX6, "factorial", "(I)J"⟩
abbrev cX6_isPlace : ByteArray := prog_8_method_13_code
def yX6_isPlace : MethodName := ⟨RX6, "isPlace", "(I)Z"⟩
abbrev cX6_isPower : ByteArray := prog_8_method_14_code
def yX6_isPower : MethodName := ⟨RX6, "isPower", "(II)Z"⟩
abbrev cX6_begin : ByteArray := prog_8_method_15_code
def yX6_begin : MethodName := ⟨RX6, "begin", "(III)I"⟩
abbrev cX6_momentOf : ByteArray := prog_8_method_16_code
def yX6_momentOf : MethodName := ⟨RX6, "momentOf", "(II)V"⟩
abbrev cX6_sumOf : ByteArray := prog_8_method_17_code
def yX6_sumOf : MethodName := ⟨RX6, "sumOf", "(II)V"⟩
abbrev cX6_errorOf : ByteArray := prog_8_method_18_code
def yX6_errorOf : MethodName := ⟨RX6, "errorOf", "(II)V"⟩
abbrev cX6_isWhich : ByteArray := prog_8_method_19_code
def yX6_isWhich : MethodName := ⟨RX6, "isWhich", "(I)Z"⟩
abbrev cX6_moment : ByteArray := prog_8_method_20_code
def yX6_moment : MethodName := ⟨RX6, "moment", "(III)J"⟩
abbrev cX6_sum : ByteArray := prog_8_method_21_code
def yX6_sum : MethodName := ⟨RX6, "sum", "(III)J"⟩
abbrev cX6_error : ByteArray := prog_8_method_22_code
def yX6_error : MethodName := ⟨RX6, "error", "(III)J"⟩
abbrev cX6_take : ByteArray := prog_8_method_23_code
def yX6_take : MethodName := ⟨RX6, "take", "(II)V"⟩
abbrev cX6_findOrbit : ByteArray := prog_8_method_24_code
def yX6_findOrbit : MethodName := ⟨RX6, "findOrbit", "(III)V"⟩
abbrev cX6_isIn : ByteArray := prog_8_method_25_code
def yX6_isIn : MethodName := ⟨RX6, "isIn", "(III)Z"⟩
abbrev cX6_placeAt : ByteArray := prog_8_method_26_code
def yX6_placeAt : MethodName := ⟨RX6, "placeAt", "(II)I"⟩
abbrev cX6_isGrid : ByteArray := prog_8_method_27_code
def yX6_isGrid : MethodName := ⟨RX6, "isGrid", "(II)Z"⟩
abbrev cX6_isWeight : ByteArray := prog_8_method_28_code
def yX6_isWeight : MethodName := ⟨RX6, "isWeight", "(J)Z"⟩
abbrev cX6_against : ByteArray := prog_8_method_29_code
def yX6_against : MethodName := ⟨RX6, "against", "(III)I"⟩
abbrev cX6_lay : ByteArray := prog_8_method_30_code
def yX6_lay : MethodName := ⟨RX6, "lay", "(III)I"⟩
abbrev cX6_place : ByteArray := prog_8_method_31_code
def yX6_place : MethodName := ⟨RX6, "place", "(III)I"⟩
abbrev cX6_orbit : ByteArray := prog_8_method_32_code
def yX6_orbit : MethodName := ⟨RX6, "orbit", "(III)I"⟩
abbrev cX6_places : ByteArray := prog_8_method_33_code
def yX6_places : MethodName := ⟨RX6, "places", "(IIII)I"⟩
abbrev cX6_drop : ByteArray := prog_8_method_34_code
def yX6_drop : MethodName := ⟨RX6, "drop", "(I)I"⟩
abbrev cX6_orbitSize : ByteArray := prog_8_method_35_code
def yX6_orbitSize : MethodName := ⟨RX6, "orbitSize", "(I)I"⟩
abbrev cX6_isInside : ByteArray := prog_8_method_36_code
def yX6_isInside : MethodName := ⟨RX6, "isInside", "(I)Z"⟩
abbrev cX6_about : ByteArray := prog_8_method_37_code
def yX6_about : MethodName := ⟨RX6, "about", "(II)I"⟩
abbrev cX6_isRight : ByteArray := prog_8_method_38_code
def yX6_isRight : MethodName := ⟨RX6, "isRight", "(I)Z"⟩
abbrev cX6_degree : ByteArray := prog_8_method_39_code
def yX6_degree : MethodName := ⟨RX6, "degree", "()I"⟩
abbrev cX6_first : ByteArray := prog_8_method_40_code
def yX6_first : MethodName := ⟨RX6, "first", "(I)I"⟩
abbrev cX6_isEven : ByteArray := prog_8_method_41_code
def yX6_isEven : MethodName := ⟨RX6, "isEven", "(I)Z"⟩
abbrev cX6_is : ByteArray := prog_8_method_42_code
def yX6_is : MethodName := ⟨RX6, "is", "(I)I"⟩
abbrev cX6_least : ByteArray := prog_8_method_43_code
def yX6_least : MethodName := ⟨RX6, "least", "(I)I"⟩
abbrev cX6_keep : ByteArray := prog_8_method_44_code
def yX6_keep : MethodName := ⟨RX6, "keep", "(I)I"⟩
abbrev cX6_load : ByteArray := prog_8_method_45_code
def yX6_load : MethodName := ⟨RX6, "load", "(I)I"⟩
abbrev cX6_farOf : ByteArray := prog_8_method_46_code
def yX6_farOf : MethodName := ⟨RX6, "farOf", "(III)I"⟩
abbrev cX6_findReps : ByteArray := prog_8_method_47_code
def yX6_findReps : MethodName := ⟨RX6, "findReps", "(I)V"⟩
abbrev cX6_haveWeights : ByteArray := prog_8_method_48_code
def yX6_haveWeights : MethodName := ⟨RX6, "haveWeights", "(III)Z"⟩
abbrev cX6_layPair : ByteArray := prog_8_method_49_code
def yX6_layPair : MethodName := ⟨RX6, "layPair", "(III)V"⟩
abbrev cX6_putAside : ByteArray := prog_8_method_50_code
def yX6_putAside : MethodName := ⟨RX6, "putAside", "()V"⟩
abbrev cX6_takeBack : ByteArray := prog_8_method_51_code
def yX6_takeBack : MethodName := ⟨RX6, "takeBack", "()V"⟩
abbrev cX6_pair : ByteArray := prog_8_method_52_code
def yX6_pair : MethodName := ⟨RX6, "pair", "(II)I"⟩
abbrev cX6_term : ByteArray := prog_8_method_53_code
def yX6_term : MethodName := ⟨RX6, "term", "(II)J"⟩
abbrev cX6_termOf : ByteArray := prog_8_method_54_code
def yX6_termOf : MethodName := ⟨RX6, "termOf", "(II)I"⟩
abbrev cX6_whole : ByteArray := prog_8_method_55_code
def yX6_whole : MethodName := ⟨RX6, "whole", "(I)J"⟩
abbrev cX6_valueAt : ByteArray := prog_8_method_56_code
def yX6_valueAt : MethodName := ⟨RX6, "valueAt", "(JJJ)J"⟩
abbrev cX6_byRule : ByteArray := prog_8_method_57_code
def yX6_byRule : MethodName := ⟨RX6, "byRule", "(II)J"⟩
abbrev cX6_sheet : ByteArray := prog_8_method_58_code
def yX6_sheet : MethodName := ⟨RX6, "sheet", "(III)I"⟩
abbrev cX6_lose : ByteArray := prog_8_method_59_code
def yX6_lose : MethodName := ⟨RX6, "lose", "(I)I"⟩
abbrev cX6_put : ByteArray := prog_8_method_60_code
def yX6_put : MethodName := ⟨RX6, "put", "(III)I"⟩
abbrev cX6_at : ByteArray := prog_8_method_61_code
def yX6_at : MethodName := ⟨RX6, "at", "(III)J"⟩
abbrev cX6_begins : ByteArray := prog_8_method_62_code
def yX6_begins : MethodName := ⟨RX6, "begins", "(I)V"⟩
abbrev cX6_tell : ByteArray := prog_8_method_63_code
def yX6_tell : MethodName := ⟨RX6, "tell", "(I)I"⟩
abbrev cX6_count : ByteArray := prog_8_method_64_code
def yX6_count : MethodName := ⟨RX6, "count", "(I)I"⟩
abbrev cX6_as : ByteArray := prog_8_method_65_code
def yX6_as : MethodName := ⟨RX6, "as", "(II)I"⟩
abbrev cX6_trace : ByteArray := prog_8_method_66_code
def yX6_trace : MethodName := ⟨RX6, "trace", "()I"⟩
abbrev cX6_fault : ByteArray := prog_8_method_67_code
def yX6_fault : MethodName := ⟨RX6, "fault", "()I"⟩
abbrev cX6_told : ByteArray := prog_8_method_68_code
def yX6_told : MethodName := ⟨RX6, "told", "(I)I"⟩
def RJ9 : String := "java/lang/Math"
def TJ9 : u_T := fun k => match k with
  | _ => ("", "", "", false)
def tyJ9 : Nat → FieldType := fun k => match k with
  | _ => .int
abbrev wsJ90 : List Cond := u_ws RJ9 TJ9 0
theorem nmJ9 : ∀ a, a < 0 → ∀ b, b < 0 → a ≠ b → (TJ9 a).2.1 ≠ (TJ9 b).2.1 := by decide +kernel
theorem tyJ9_ok : ∀ k, k < 0 → parseFieldDescriptor (TJ9 k).2.2.1 = some (tyJ9 k) := by decide +kernel
abbrev cJ9_abs_0f7a4 : ByteArray := prog_9_method_59_code
def yJ9_abs_0f7a4 : MethodName := ⟨RJ9, "abs", "(I)I"⟩
abbrev cJ9_abs_067f4 : ByteArray := prog_9_method_61_code
def yJ9_abs_067f4 : MethodName := ⟨RJ9, "abs", "(J)J"⟩
def RJ10 : String := "java/lang/System"
def TJ10 : u_T := fun k => match k with
  | _ => ("", "", "", false)
def tyJ10 : Nat → FieldType := fun k => match k with
  | _ => .int
abbrev wsJ100 : List Cond := u_ws RJ10 TJ10 0
theorem nmJ10 : ∀ a, a < 0 → ∀ b, b < 0 → a ≠ b → (TJ10 a).2.1 ≠ (TJ10 b).2.1 := by decide +kernel
theorem tyJ10_ok : ∀ k, k < 0 → parseFieldDescriptor (TJ10 k).2.2.1 = some (tyJ10 k) := by decide +kernel
def RJ7 : String := "java/util/Arrays"
def TJ7 : u_T := fun k => match k with
  | _ => ("", "", "", false)
def tyJ7 : Nat → FieldType := fun k => match k with
  | _ => .int
abbrev wsJ70 : List Cond := u_ws RJ7 TJ7 0
theorem nmJ7 : ∀ a, a < 0 → ∀ b, b < 0 → a ≠ b → (TJ7 a).2.1 ≠ (TJ7 b).2.1 := by decide +kernel
theorem tyJ7_ok : ∀ k, k < 0 → parseFieldDescriptor (TJ7 k).2.2.1 = some (tyJ7 k) := by decide +kernel
abbrev cJ7_fill_d0a16 : ByteArray := prog_11_method_101_code
def yJ7_fill_d0a16 : MethodName := ⟨RJ7, "fill", "([JJ)V"⟩
abbrev cJ7_fill_53178 : ByteArray := prog_11_method_103_code
def yJ7_fill_53178 : MethodName := ⟨RJ7, "fill", "([II)V"⟩
def RL : String := "FewPlacesLaw"
abbrev cL_law : ByteArray := code
def yL_law : MethodName := ⟨RL, "law", "([I)Z"⟩
abbrev vwCl : List vw_C := [(RX0, TX0, 2), (RX1, TX1, 19), (RX2, TX2, 3), (RX3, TX3, 7), (RX4, TX4, 3), (RX5, TX5, 15), (RX6, TX6, 40)]
end
section
/-! ===== an interpreter of the instructions that the program has: cells by their numbers, values with numbers of cells for references ===== -/
abbrev zC : Type := Nat × List Value
abbrev zH : Type := List zC
abbrev zL : Type := List (Nat × Value)
/-- instruction, its length, three numbers -/
abbrev zE : Type := Instr × Nat × Nat × Nat × Nat
/-- arrays that are only read: length, contents; a reference to one is written retAddr -/
abbrev zF : Type := Nat → Nat × (Nat → Int32)
abbrev zS : Type := Nat × zL × List Value × zH
def zget (lv : zL) (i : Nat) : Option Value := match lv with
  | [] => none
  | q :: r => if q.1 = i then some q.2 else zget r i
def zst1 (lv : zL) (i : Nat) (v : Value) : zL := (i, v) :: lv.filter (fun q => !(q.1 == i) && !(q.1 + 1 == i && q.2.category == 2))
def zst2 (lv : zL) (i : Nat) (v : Value) : zL := (i, v) :: lv.filter (fun q => !(q.1 == i) && (!(q.1 == i + 1) && !(q.1 + 1 == i && q.2.category == 2)))
def zin (i : Int32) (n : Nat) : Bool := !(decide (i < 0)) && decide (i.toNatClampNeg < n)
/-- references within the first n cells -/
def zwf (n : Nat) (v : Value) : Bool := match v with
  | .ref k => decide (k < n)
  | _ => true
def zwfs (n : Nat) (vs : List Value) : Bool := vs.all (zwf n)
def zwfl (n : Nat) (lv : zL) : Bool := lv.all (fun q => zwf n q.2)
def zwfh (n : Nat) (h : zH) : Bool := h.all (fun c => zwfs n c.2)
def zcat (st : List Value) : Nat := (st.map fun v => v.category).sum
-- loads
def zldI (lv : zL) (i pc : Nat) (st : List Value) (h : zH) : Option zS := match zget lv i with
  | some (.int x) => some (pc, lv, .int x :: st, h)
  | _ => none
def zldL (lv : zL) (i pc : Nat) (st : List Value) (h : zH) : Option zS := match zget lv i with
  | some (.long x) => some (pc, lv, .long x :: st, h)
  | _ => none
def zldA (lv : zL) (i pc : Nat) (st : List Value) (h : zH) : Option zS := match zget lv i with
  | some (.ref x) => some (pc, lv, .ref x :: st, h)
  | some (.retAddr x) => some (pc, lv, .retAddr x :: st, h)
  | _ => none
-- stores
def zsI (lv : zL) (i pc : Nat) (st : List Value) (h : zH) : Option zS := match st with
  | .int x :: r => some (pc, zst1 lv i (.int x), r, h)
  | _ => none
def zsL (lv : zL) (i pc : Nat) (st : List Value) (h : zH) : Option zS := match st with
  | .long x :: r => some (pc, zst2 lv i (.long x), r, h)
  | _ => none
def zsA (lv : zL) (i pc : Nat) (st : List Value) (h : zH) : Option zS := match st with
  | .ref x :: r => some (pc, zst1 lv i (.ref x), r, h)
  | _ => none
-- sums
def zII (f : Int32 → Int32 → Int32) (pc : Nat) (lv : zL) (st : List Value) (h : zH) : Option zS := match st with
  | .int y :: .int x :: r => some (pc + 1, lv, .int (f x y) :: r, h)
  | _ => none
def zIIn (f : Int32 → Int32 → Int32) (pc : Nat) (lv : zL) (st : List Value) (h : zH) : Option zS := match st with
  | .int y :: .int x :: r => if y = 0 then none else some (pc + 1, lv, .int (f x y) :: r, h)
  | _ => none
def zLL (f : Int64 → Int64 → Int64) (pc : Nat) (lv : zL) (st : List Value) (h : zH) : Option zS := match st with
  | .long y :: .long x :: r => some (pc + 1, lv, .long (f x y) :: r, h)
  | _ => none
def zLLn (f : Int64 → Int64 → Int64) (pc : Nat) (lv : zL) (st : List Value) (h : zH) : Option zS := match st with
  | .long y :: .long x :: r => if y = 0 then none else some (pc + 1, lv, .long (f x y) :: r, h)
  | _ => none
def zI (f : Int32 → Value) (pc : Nat) (lv : zL) (st : List Value) (h : zH) : Option zS := match st with
  | .int x :: r => some (pc + 1, lv, f x :: r, h)
  | _ => none
def zLo (f : Int64 → Value) (pc : Nat) (lv : zL) (st : List Value) (h : zH) : Option zS := match st with
  | .long x :: r => some (pc + 1, lv, f x :: r, h)
  | _ => none
def zlcmp (pc : Nat) (lv : zL) (st : List Value) (h : zH) : Option zS := match st with
  | .long y :: .long x :: r => some (pc + 1, lv, .int (lg_cmp x y) :: r, h)
  | _ => none
-- branches
def zcI (c : Jvm.ClassFile.Cond) (x y : Int32) : Prop := match c with
  | .eq => x = y
  | .ne => ¬ x = y
  | .lt => x < y
  | .ge => x ≥ y
  | .gt => x > y
  | .le => x ≤ y
def zcB (c : Jvm.ClassFile.Cond) (x y : Int32) : Bool := match c with
  | .eq => decide (x = y)
  | .ne => !decide (x = y)
  | .lt => decide (x < y)
  | .ge => !decide (x < y)
  | .gt => decide (y < x)
  | .le => !decide (y < x)
def zif2 (c : Jvm.ClassFile.Cond) (t pc : Nat) (lv : zL) (st : List Value) (h : zH) : Option zS := match st with
  | .int y :: .int x :: r => some (bif zcB c x y then t else pc + 3, lv, r, h)
  | _ => none
def zif1 (c : Jvm.ClassFile.Cond) (t pc : Nat) (lv : zL) (st : List Value) (h : zH) : Option zS := match st with
  | .int x :: r => some (bif zcB c x 0 then t else pc + 3, lv, r, h)
  | _ => none
def ztgt (pc : Nat) (off : Int) : Option Nat := if 0 ≤ (pc : Int) + off then some ((pc : Int) + off).toNat else none
def ztab (dflt lo hi : Int) (offs : Array Int) (x : Int32) : Option Int := if x.toInt < lo ∨ hi < x.toInt then some dflt else offs[(x.toInt - lo).toNat]?
def zsw (o : Int32 → Option Int) (pc : Nat) (lv : zL) (st : List Value) (h : zH) : Option zS := match st with
  | .int x :: r => match o x with
    | some off => match ztgt pc off with
      | some t => some (t, lv, r, h)
      | none => none
    | none => none
  | _ => none
-- arrays
def zald (tag : Nat) (F : zF) (pc : Nat) (lv : zL) (st : List Value) (h : zH) : Option zS := match st with
  | .int i :: .ref a :: r => match h[a]? with
    | some (t, l) => if t = tag ∧ zin i l.length = true then (match l[i.toNatClampNeg]? with
      | some v => some (pc + 1, lv, v :: r, h)
      | none => none) else none
    | none => none
  | .int i :: .retAddr a :: r => if tag = 10 ∧ a < 4 ∧ zin i (F a).1 = true then some (pc + 1, lv, .int ((F a).2 i.toNatClampNeg) :: r, h) else none
  | _ => none
def zaldq (pc : Nat) (lv : zL) (st : List Value) (h : zH) : Option zS := match st with
  | .int i :: .ref a :: r => match h[a]? with
    | some (t, l) => if (t = 13 ∨ t = 14 ∨ t = 15) ∧ zin i l.length = true then (match l[i.toNatClampNeg]? with
      | some (.ref v) => some (pc + 1, lv, .ref v :: r, h)
      | _ => none) else none
    | none => none
  | _ => none
def zastI (pc : Nat) (lv : zL) (st : List Value) (h : zH) : Option zS := match st with
  | .int x :: .int i :: .ref a :: r => match h[a]? with
    | some (t, l) => if t = 10 ∧ zin i l.length = true then some (pc + 1, lv, r, h.set a (t, l.set i.toNatClampNeg (.int x))) else none
    | none => none
  | _ => none
def zastZ (pc : Nat) (lv : zL) (st : List Value) (h : zH) : Option zS := match st with
  | .int x :: .int i :: .ref a :: r => match h[a]? with
    | some (t, l) => if t = 12 ∧ zin i l.length = true then some (pc + 1, lv, r, h.set a (t, l.set i.toNatClampNeg (.int (vp_nar .boolean x)))) else none
    | none => none
  | _ => none
def zastL (pc : Nat) (lv : zL) (st : List Value) (h : zH) : Option zS := match st with
  | .long x :: .int i :: .ref a :: r => match h[a]? with
    | some (t, l) => if t = 11 ∧ zin i l.length = true then some (pc + 1, lv, r, h.set a (t, l.set i.toNatClampNeg (.long x))) else none
    | none => none
  | _ => none
def zastQ (pc : Nat) (lv : zL) (st : List Value) (h : zH) : Option zS := match st with
  | .ref v :: .int i :: .ref a :: r => match h[a]? with
    | some (t, l) => match h[v]? with
      | some (tv, _) => if ((t = 13 ∧ tv = 3) ∨ (t = 14 ∧ tv = 4)) ∧ zin i l.length = true then some (pc + 1, lv, r, h.set a (t, l.set i.toNatClampNeg (.ref v))) else none
      | none => none
    | none => none
  | _ => none
def zalen (F : zF) (pc : Nat) (lv : zL) (st : List Value) (h : zH) : Option zS := match st with
  | .ref a :: r => match h[a]? with
    | some (t, l) => if 10 ≤ t ∧ t ≤ 15 then some (pc + 1, lv, .int (Int32.ofNat l.length) :: r, h) else none
    | none => none
  | .retAddr a :: r => if a < 4 then some (pc + 1, lv, .int (Int32.ofNat (F a).1) :: r, h) else none
  | _ => none
-- fields: a the class's number, b the field's
def zgetf (ci k pc : Nat) (lv : zL) (st : List Value) (h : zH) : Option zS := match st with
  | .ref a :: r => match h[a]? with
    | some (t, l) => if t = ci ∧ t < 7 then (match l[k]? with
      | some v => some (pc + 3, lv, v :: r, h)
      | none => none) else none
    | none => none
  | _ => none
def zfit (ty : FieldType) (v : Value) : Bool := match ty with
  | .int => (match v with | .int _ => true | _ => false)
  | .long => (match v with | .long _ => true | _ => false)
  | .object _ => (match v with | .ref _ => true | _ => false)
  | .array _ => (match v with | .ref _ => true | _ => false)
  | _ => false
def zty (kind : Nat) : FieldType := match kind with
  | 0 => .int
  | 1 => .long
  | _ => .object ""
def zputf (ci k kind pc : Nat) (lv : zL) (st : List Value) (h : zH) : Option zS := match st with
  | v :: .ref a :: r => match h[a]? with
    | some (t, l) => if t = ci ∧ t < 7 ∧ k < l.length ∧ zfit (zty kind) v = true then some (pc + 3, lv, r, h.set a (t, l.set k v)) else none
    | none => none
  | _ => none
-- makings
def zdef (kind : Nat) : Value := match kind with
  | 0 => .int 0
  | 1 => .long 0
  | _ => .null
def zNN : Nat → Nat := fun c => match c with
  | 0 => 2 | 1 => 19 | 2 => 3 | 3 => 7 | 4 => 3 | 5 => 15 | _ => 40
/-- the kinds of a class's fields, by the printed types -/
def zkd (ty : FieldType) : Nat := match ty with
  | .int => 0
  | .long => 1
  | _ => 2
def ztyX (c : Nat) : Nat → FieldType := match c with
  | 0 => tyX0 | 1 => tyX1 | 2 => tyX2 | 3 => tyX3 | 4 => tyX4 | 5 => tyX5 | _ => tyX6
def zfresh (c : Nat) : List Value := (List.range (zNN c)).map (fun k => defaultValue (ztyX c k))
def zwfall (lv : zL) (st : List Value) (h : zH) : Bool := zwfl h.length lv && (zwfs h.length st && zwfh h.length h)
def znew (ci pc : Nat) (lv : zL) (st : List Value) (h : zH) : Option zS :=
  if ci < 7 ∧ zwfall lv st h = true then some (pc + 3, lv, .ref h.length :: st, h ++ [(ci, zfresh ci)]) else none
def znewa (tag : Nat) (v : Value) (pc : Nat) (lv : zL) (st : List Value) (h : zH) : Option zS := match st with
  | .int n :: r => if ¬ n < 0 ∧ n.toNatClampNeg ≤ 1000 ∧ zwfall lv st h = true then some (pc, lv, .ref h.length :: r, h ++ [(tag, List.replicate n.toNatClampNeg v)]) else none
  | _ => none
def znewm (pc : Nat) (lv : zL) (st : List Value) (h : zH) : Option zS := match st with
  | .int k :: .int n :: r => if ¬ n < 0 ∧ n.toNatClampNeg ≤ 1000 ∧ ¬ k < 0 ∧ k.toNatClampNeg ≤ 1000 ∧ zwfall lv st h = true then
      some (pc + 4, lv, .ref h.length :: r, (h ++ [(15, (List.range n.toNatClampNeg).map (fun i => .ref (h.length + 1 + i)))]) ++ List.replicate n.toNatClampNeg (11, List.replicate k.toNatClampNeg (.long 0))) else none
  | _ => none
def zcopy (pc : Nat) (lv : zL) (st : List Value) (h : zH) : Option zS := match st with
  | .int n :: .int dp :: .ref a :: .int sp :: .ref a0 :: r => match h[a0]? with
    | some (t0, l0) => match h[a]? with
      | some (t, l) => if t0 = 10 ∧ t = 10 ∧ ¬ sp < 0 ∧ ¬ dp < 0 ∧ ¬ n < 0 ∧ sp.toNatClampNeg + n.toNatClampNeg ≤ l0.length ∧ dp.toNatClampNeg + n.toNatClampNeg ≤ l.length ∧ zcat r ≤ 8 then
          some (pc + 3, lv, r, h.set a (10, (l.take dp.toNatClampNeg ++ (l0.drop sp.toNatClampNeg).take n.toNatClampNeg) ++ l.drop (dp.toNatClampNeg + n.toNatClampNeg))) else none
      | none => none
    | none => none
  | _ => none
def zobji (pc : Nat) (lv : zL) (st : List Value) (h : zH) : Option zS := match st with
  | .ref _ :: r => if zcat r ≤ 8 then some (pc + 3, lv, r, h) else none
  | _ => none
def zabsI (pc : Nat) (lv : zL) (st : List Value) (h : zH) : Option zS := match st with
  | .int x :: r => if zcat r ≤ 8 then some (pc + 3, lv, .int (if 0 ≤ x then x else 0 - x) :: r, h) else none
  | _ => none
def zabsL (pc : Nat) (lv : zL) (st : List Value) (h : zH) : Option zS := match st with
  | .long x :: r => if zcat r ≤ 8 then some (pc + 3, lv, .long (if 0 < x then x else -x) :: r, h) else none
  | _ => none
def zdup (pc : Nat) (lv : zL) (st : List Value) (h : zH) : Option zS := match st with
  | v :: r => if v.category = 1 then some (pc + 1, lv, v :: v :: r, h) else none
  | _ => none
def zdup2 (pc : Nat) (lv : zL) (st : List Value) (h : zH) : Option zS := match st with
  | v :: w :: r => if v.category = 1 ∧ w.category = 1 then some (pc + 1, lv, v :: w :: v :: w :: r, h) else none
  | _ => none
def zpop (pc : Nat) (lv : zL) (st : List Value) (h : zH) : Option zS := match st with
  | v :: r => if v.category = 1 then some (pc + 1, lv, r, h) else none
  | _ => none
def ziinc (lv : zL) (i : Nat) (n : Int) (pc : Nat) (st : List Value) (h : zH) : Option zS := match zget lv i with
  | some (.int x) => some (pc + 3, zst1 lv i (.int (x + Int32.ofInt n)), st, h)
  | _ => none
/-- one instruction that is no call and no return -/
def zstep (F : zF) (e : zE) (pc : Nat) (lv : zL) (st : List Value) (h : zH) : Option zS := match e.1 with
  | .iconst n => some (pc + 1, lv, .int (Int32.ofInt n) :: st, h)
  | .bipush n => some (pc + 2, lv, .int (Int8.ofInt n).toInt32 :: st, h)
  | .sipush n => some (pc + 3, lv, .int (Int16.ofInt n).toInt32 :: st, h)
  | .lconst n => some (pc + 1, lv, .long (Int64.ofNat (n : Nat)) :: st, h)
  | .ldc2_w _ => some (pc + 3, lv, .long (Int64.ofNat e.2.2.1) :: st, h)
  | .iload_n k => zldI lv k (pc + 1) st h
  | .iload k => zldI lv k (pc + 2) st h
  | .lload_n k => zldL lv k (pc + 1) st h
  | .lload k => zldL lv k (pc + 2) st h
  | .aload_n k => zldA lv k (pc + 1) st h
  | .aload k => zldA lv k (pc + 2) st h
  | .istore_n k => zsI lv k (pc + 1) st h
  | .istore k => zsI lv k (pc + 2) st h
  | .lstore_n k => zsL lv k (pc + 1) st h
  | .lstore k => zsL lv k (pc + 2) st h
  | .astore_n k => zsA lv k (pc + 1) st h
  | .astore k => zsA lv k (pc + 2) st h
  | .iinc i n => ziinc lv i n pc st h
  | .iadd => zII (fun x y => x + y) pc lv st h
  | .isub => zII (fun x y => x - y) pc lv st h
  | .imul => zII (fun x y => x * y) pc lv st h
  | .iand => zII (fun x y => x &&& y) pc lv st h
  | .idiv => zIIn (fun x y => x / y) pc lv st h
  | .irem => zIIn (fun x y => x - x / y * y) pc lv st h
  | .ladd => zLL (fun x y => x + y) pc lv st h
  | .lsub => zLL (fun x y => x - y) pc lv st h
  | .lmul => zLL (fun x y => x * y) pc lv st h
  | .ldiv => zLLn (fun x y => x / y) pc lv st h
  | .lrem => zLLn (fun x y => x - x / y * y) pc lv st h
  | .ineg => zI (fun x => .int (-x)) pc lv st h
  | .i2l => zI (fun x => .long x.toInt64) pc lv st h
  | .i2b => zI (fun x => .int x.toInt8.toInt32) pc lv st h
  | .i2s => zI (fun x => .int x.toInt16.toInt32) pc lv st h
  | .lneg => zLo (fun x => .long (-x)) pc lv st h
  | .l2i => zLo (fun x => .int x.toInt32) pc lv st h
  | .lcmp => zlcmp pc lv st h
  | .if_icmp c _ => zif2 c e.2.2.1 pc lv st h
  | .ifCond c _ => zif1 c e.2.2.1 pc lv st h
  | .goto _ => some (e.2.2.1, lv, st, h)
  | .tableswitch dflt lo hi offs => zsw (ztab dflt lo hi offs) pc lv st h
  | .lookupswitch dflt ps => zsw (fun x => some (Op.lookupswitch.offset ps.toList dflt x.toInt)) pc lv st h
  | .dup => zdup pc lv st h
  | .dup2 => zdup2 pc lv st h
  | .pop => zpop pc lv st h
  | .iaload => zald 10 F pc lv st h
  | .laload => zald 11 F pc lv st h
  | .baload => zald 12 F pc lv st h
  | .aaload => zaldq pc lv st h
  | .iastore => zastI pc lv st h
  | .bastore => zastZ pc lv st h
  | .lastore => zastL pc lv st h
  | .aastore => zastQ pc lv st h
  | .arraylength => zalen F pc lv st h
  | .getfield _ => zgetf e.2.2.1 e.2.2.2.1 pc lv st h
  | .putfield _ => zputf (e.2.2.1 % 16) e.2.2.2.1 (e.2.2.1 / 16) pc lv st h
  | .getstatic _ => some (pc + 3, lv, .retAddr e.2.2.1 :: st, h)
  | .new _ => znew e.2.2.1 pc lv st h
  | .newarray t => (match t with
    | .int => znewa 10 (.int 0) (pc + 2) lv st h
    | .long => znewa 11 (.long 0) (pc + 2) lv st h
    | .boolean => znewa 12 (.int 0) (pc + 2) lv st h
    | _ => none)
  | .anewarray _ => znewa (13 + e.2.2.1) .null (pc + 3) lv st h
  | .multianewarray _ _ => znewm pc lv st h
  | .invokespecial _ => zobji pc lv st h
  | .invokestatic _ => (match e.2.2.1 with
    | 901 => zcopy pc lv st h
    | 902 => zabsI pc lv st h
    | _ => zabsL pc lv st h)
  | _ => none
/-- what a return instruction gives -/
def zret (i : Instr) (st : List Value) : Option (Option Value) := match i with
  | .ireturn => (match st with | [.int x] => some (some (.int x)) | _ => none)
  | .lreturn => (match st with | [.long x] => some (some (.long x)) | _ => none)
  | .return_ => (match st with | [] => some none | _ => none)
  | _ => none
/-- 0: a call of a method of the table; 1: a return; 2: another -/
def zcls (e : zE) : Nat := match e.1 with
  | .invokevirtual _ => 0
  | .invokestatic _ => if e.2.2.1 < 900 then 0 else 2
  | .invokespecial _ => if e.2.2.1 = 900 then 2 else 0
  | .ireturn => 1
  | .lreturn => 1
  | .return_ => 1
  | _ => 2
/-- the run of a method from a place in it, with fuel -/
def zex (P : Nat → Nat → Option zE) (F : zF) : Nat → Nat → Nat → zL → List Value → zH → Option (Option Value × zH)
  | 0, _, _, _, _, _ => none
  | n + 1, k, pc, lv, st, h => match P k pc with
    | none => none
    | some e => match zcls e with
      | 0 => if e.2.2.2.1 ≤ st.length ∧ zcat (st.drop e.2.2.2.1) ≤ 8 ∧ zwfl h.length lv = true ∧ zwfs h.length (st.drop e.2.2.2.1) = true then
          (match zex P F n e.2.2.1 0 (lv_args 0 (st.take e.2.2.2.1).reverse) [] h with
          | some (r, h') => zex P F n k (pc + 3) lv (r.toList ++ st.drop e.2.2.2.1) h'
          | none => none) else none
      | 1 => (match zret e.1 st with
          | some r => some (r, h)
          | none => none)
      | _ => (match zstep F e pc lv st h with
          | some z => zex P F n k z.1 z.2.1 z.2.2.1 z.2.2.2
          | none => none)
end
section
/-! ===== what the code table must say of an instruction: checked by the kernel ===== -/
/-- a method: name, code, locals, what it returns; frames and words of locals that its calls take; 0 static, 1 by its object, 2 a constructor; number of parameters -/
abbrev zM : Type := MethodName × ByteArray × Nat × Option FieldType × Nat × Nat × Nat × Nat
def zlw (i : Nat) (w : Cond) : Bool := decide (lw_tbl[i]? = some w)
def zsn (a : Nat) : String := match a with
  | 0 => "POWER_X"
  | 1 => "POWER_Y"
  | _ => "FACTORIAL"
def zlinkF (own : String) (idx d : Nat) (q : String × String × String × Bool) : Bool := zlw d (.fieldLink own idx q.1 q.2.1 q.2.2.1)
def zkok (kind : Nat) (ty : FieldType) : Bool := match ty with
  | .int => kind == 0
  | .long => kind == 1
  | .object _ => kind == 2
  | .array _ => kind == 2
  | _ => false
def zsideB (mt : Nat → zM) (M : zM) (pc : Nat) (e : zE) : Bool := match e.1 with
  | .ldc2_w idx => zlw e.2.2.2.2 (.constantLong M.1.cls idx (Int64.ofNat e.2.2.1))
  | .istore_n k => decide ((k : Nat) < M.2.2.1)
  | .istore k => decide (k < M.2.2.1)
  | .astore_n k => decide ((k : Nat) < M.2.2.1)
  | .astore k => decide (k < M.2.2.1)
  | .lstore_n k => decide ((k : Nat) + 1 < M.2.2.1)
  | .lstore k => decide (k + 1 < M.2.2.1)
  | .iinc i _ => decide (i < M.2.2.1)
  | .if_icmp _ off => decide ((pc : Int) + off = (e.2.2.1 : Int))
  | .ifCond _ off => decide ((pc : Int) + off = (e.2.2.1 : Int))
  | .goto off => decide ((pc : Int) + off = (e.2.2.1 : Int))
  | .lookupswitch _ ps => (ps.toList.zip (ps.toList.drop 1)).all (fun (a, next) => a.1 < next.1)
  | .getfield idx => (match vwCl[e.2.2.1]? with
    | some r => decide (e.2.2.2.1 < r.2.2) && zlinkF M.1.cls idx e.2.2.2.2 (r.2.1 e.2.2.2.1)
    | none => false)
  | .putfield idx => (match vwCl[e.2.2.1 % 16]? with
    | some r => decide (e.2.2.2.1 < r.2.2) && zlinkF M.1.cls idx e.2.2.2.2 (r.2.1 e.2.2.2.1) && ((!(r.2.1 e.2.2.2.1).2.2.2) || (decide ((r.2.1 e.2.2.2.1).1 = M.1.cls) && decide (M.1.name = "<init>"))) && zkok (e.2.2.1 / 16) (ztyX (e.2.2.1 % 16) e.2.2.2.1)
    | none => false)
  | .getstatic idx => decide (e.2.2.1 < 3) && (if e.2.2.2.1 = 0 then zlw e.2.2.2.2 (.fieldLink M.1.cls idx "FewPlaces" (zsn e.2.2.1) "[I") else zlw e.2.2.2.2 (.fieldLinkNest M.1.cls idx "FewPlaces" (zsn e.2.2.1) "[I" "FewPlaces"))
  | .new idx => (match vwCl[e.2.2.1]? with
    | some r => zlw e.2.2.2.2 (.classLink M.1.cls idx r.1)
    | none => false)
  | .anewarray idx => decide (e.2.2.1 < 2) && zlw e.2.2.2.2 (.classLink M.1.cls idx (if e.2.2.1 = 0 then RX3 else RX4))
  | .multianewarray idx dims => decide (dims = 2) && zlw e.2.2.2.2 (.classLink M.1.cls idx "[[J")
  | .invokevirtual idx => decide ((mt e.2.2.1).2.2.2.2.2.2.1 = 1) && decide (e.2.2.2.1 = (mt e.2.2.1).2.2.2.2.2.2.2 + 1) && decide ((mt e.2.2.1).2.2.2.2.1 + 1 ≤ M.2.2.2.2.1) && decide (8 + ((mt e.2.2.1).2.2.1 + 11) + (mt e.2.2.1).2.2.2.2.2.1 ≤ M.2.2.2.2.2.1) && (if e.2.2.2.2 % 2 = 0 then zlw (e.2.2.2.2 / 2) (.methodLink M.1.cls idx (mt e.2.2.1).1) else zlw (e.2.2.2.2 / 2) (.methodLinkNest M.1.cls idx (mt e.2.2.1).1 "FewPlaces"))
  | .invokestatic idx => if e.2.2.1 = 902 then zlw e.2.2.2.2 (.methodLink M.1.cls idx Lib.Math.abs.name) && decide (1 ≤ M.2.2.2.2.1) && decide (21 ≤ M.2.2.2.2.2.1) else if e.2.2.1 = 903 then zlw e.2.2.2.2 (.methodLink M.1.cls idx Lib.MathLoose.abs_long.x) && decide (1 ≤ M.2.2.2.2.1) && decide (21 ≤ M.2.2.2.2.2.1) else if e.2.2.1 = 901 then zlw e.2.2.2.2 (.methodLink M.1.cls idx arraycopyName) && decide (1 ≤ M.2.2.2.2.1) && decide (8 + (nativeFrameWords "java/lang/System" "arraycopy" 5 + 11) ≤ M.2.2.2.2.2.1) else
    decide (e.2.2.1 < 900) && decide ((mt e.2.2.1).2.2.2.2.2.2.1 = 0) && decide (e.2.2.2.1 = (mt e.2.2.1).2.2.2.2.2.2.2) && decide ((mt e.2.2.1).2.2.2.2.1 + 1 ≤ M.2.2.2.2.1) && decide (8 + ((mt e.2.2.1).2.2.1 + 11) + (mt e.2.2.1).2.2.2.2.2.1 ≤ M.2.2.2.2.2.1) && (if e.2.2.2.2 % 2 = 0 then zlw (e.2.2.2.2 / 2) (.methodLink M.1.cls idx (mt e.2.2.1).1) else zlw (e.2.2.2.2 / 2) (.methodLinkNest M.1.cls idx (mt e.2.2.1).1 "FewPlaces"))
  | .invokespecial idx => if e.2.2.1 = 900 then zlw e.2.2.2.2 (.methodLink M.1.cls idx objectInit) && decide (1 ≤ M.2.2.2.2.1) && decide (20 ≤ M.2.2.2.2.2.1) else
    decide ((mt e.2.2.1).2.2.2.2.2.2.1 = 2) && decide (e.2.2.2.1 = (mt e.2.2.1).2.2.2.2.2.2.2 + 1) && decide ((mt e.2.2.1).2.2.2.2.1 + 1 ≤ M.2.2.2.2.1) && decide (8 + ((mt e.2.2.1).2.2.1 + 11) + (mt e.2.2.1).2.2.2.2.2.1 ≤ M.2.2.2.2.2.1) && (if e.2.2.2.2 % 2 = 0 then zlw (e.2.2.2.2 / 2) (.methodLink M.1.cls idx (mt e.2.2.1).1) else zlw (e.2.2.2.2 / 2) (.methodLinkNest M.1.cls idx (mt e.2.2.1).1 "FewPlaces"))
  | _ => true
def zgood (mt : Nat → zM) (M : zM) (pc : Nat) (e : zE) : Prop := decode M.2.1 pc = .ok (e.1, e.2.1) ∧ zsideB mt M pc e = true
def zgoodB (mt : Nat → zM) (M : zM) (q : Nat × zE) : Bool := decide (decode M.2.1 q.1 = .ok (q.2.1, q.2.2.1)) && zsideB mt M q.1 q.2
-- tables as trees
def zlf (l : List (Nat × zE)) (pc : Nat) : Option zE := match l with
  | [] => none
  | q :: r => bif Nat.beq q.1 pc then some q.2 else zlf r pc
def ztr {α : Type} (m : Nat) (l r : Nat → α) (pc : Nat) : α := bif Nat.blt pc m then l pc else r pc
def zall (Q : Nat → zE → Prop) (f : Nat → Option zE) : Prop := ∀ pc e, f pc = some e → Q pc e
theorem zall_tr {Q : Nat → zE → Prop} {m : Nat} {l r : Nat → Option zE} (hl : zall Q l) (hr : zall Q r) : zall Q (ztr m l r) := by
  intro pc e h
  unfold ztr at h
  cases hb : Nat.blt pc m <;> rw [hb] at h
  · exact hr pc e h
  · exact hl pc e h
theorem zall_lf {mt : Nat → zM} {M : zM} : ∀ (l : List (Nat × zE)), l.all (zgoodB mt M) = true → zall (zgood mt M) (zlf l)
  | [], _ => fun pc e h => by cases h
  | q :: r, hl => fun pc e h => by
    rw [List.all_cons, Bool.and_eq_true] at hl
    unfold zlf at h
    cases hb : Nat.beq q.1 pc <;> rw [hb] at h
    · exact zall_lf r hl.2 pc e h
    · have e1 : q.1 = pc := Nat.eq_of_beq_eq_true hb
      have e2 : q.2 = e := Option.some.inj h
      have h1 := hl.1
      unfold zgoodB at h1
      rw [Bool.and_eq_true, decide_eq_true_eq, e1, e2] at h1
      exact h1
/-- what is checked of each method -/
def zmokB (M : zM) (i1 i2 i3 : Nat) : Bool := plainName M.1.cls && zlw i1 (.initialized M.1.cls) && decide (M.1.cls ≠ "java/lang/invoke/MethodHandle") && decide (M.1.cls ≠ "java/lang/invoke/VarHandle") && decide ((parseMethodDescriptor M.1.desc).map (fun d => d.parameters.length) = some M.2.2.2.2.2.2.2) && (match M.2.2.2.2.2.2.1 with
  | 0 => zlw i2 (.static M.1)
  | 1 => zlw i2 (.instanceMethod M.1) && zlw i3 (.selects M.1.cls M.1 M.1)
  | _ => zlw i2 (.instanceMethod M.1) && decide (M.1.name = "<init>") && decide (M.2.2.2.1 = none))
def zmok (M : zM) : Prop := Cond.code M.1 M.2.1 M.2.2.1 M.2.2.2.1 ∈ lw_tbl ∧ ∃ i1 i2 i3, zmokB M i1 i2 i3 = true
end
section
/-! ===== the methods ===== -/
def zm_X0_init : zM := (yX0_init, cX0_init, 1, (Option.none : Option Jvm.ClassFile.FieldType), 1, 20, 2, 0)
def zm_X0_become : zM := (yX0_become, cX0_become, 9, (Option.none : Option Jvm.ClassFile.FieldType), 2, 51, 1, 2)
def zm_X0_addTimes : zM := (yX0_addTimes, cX0_addTimes, 4, (Option.none : Option Jvm.ClassFile.FieldType), 3, 79, 1, 2)
def zm_X0_becomeMoment : zM := (yX0_becomeMoment, cX0_becomeMoment, 6, (Option.none : Option Jvm.ClassFile.FieldType), 3, 79, 1, 3)
def zm_X0_showing : zM := (yX0_showing, cX0_showing, 2, (Option.some Jvm.ClassFile.FieldType.long), 0, 0, 1, 1)
def zm_X1_init : zM := (yX1_init, cX1_init, 1, (Option.none : Option Jvm.ClassFile.FieldType), 2, 40, 2, 0)
def zm_X1_gather : zM := (yX1_gather, cX1_gather, 6, (Option.none : Option Jvm.ClassFile.FieldType), 4, 104, 1, 3)
def zm_X1_isLeastOfOrbit : zM := (yX1_isLeastOfOrbit, cX1_isLeastOfOrbit, 4, (Option.some Jvm.ClassFile.FieldType.boolean), 0, 0, 1, 2)
def zm_X1_append : zM := (yX1_append, cX1_append, 6, (Option.none : Option Jvm.ClassFile.FieldType), 2, 49, 1, 3)
def zm_X1_addPowers : zM := (yX1_addPowers, cX1_addPowers, 5, (Option.none : Option Jvm.ClassFile.FieldType), 1, 25, 1, 3)
def zm_X1_findFewest : zM := (yX1_findFewest, cX1_findFewest, 6, (Option.some Jvm.ClassFile.FieldType.boolean), 4, 111, 1, 1)
def zm_X1_weigh : zM := (yX1_weigh, cX1_weigh, 13, (Option.some Jvm.ClassFile.FieldType.boolean), 3, 79, 1, 2)
def zm_X1_bringToOneLower : zM := (yX1_bringToOneLower, cX1_bringToOneLower, 3, (Option.some Jvm.ClassFile.FieldType.boolean), 2, 51, 1, 0)
def zm_X1_isRightUpTo : zM := (yX1_isRightUpTo, cX1_isRightUpTo, 8, (Option.some Jvm.ClassFile.FieldType.boolean), 0, 0, 1, 3)
def zm_X2_init : zM := (yX2_init, cX2_init, 1, (Option.none : Option Jvm.ClassFile.FieldType), 1, 20, 2, 0)
def zm_X2_gather : zM := (yX2_gather, cX2_gather, 6, (Option.none : Option Jvm.ClassFile.FieldType), 3, 70, 1, 4)
def zm_X2_insertBothWays : zM := (yX2_insertBothWays, cX2_insertBothWays, 3, (Option.none : Option Jvm.ClassFile.FieldType), 2, 48, 1, 2)
def zm_X2_insert : zM := (yX2_insert, cX2_insert, 6, (Option.none : Option Jvm.ClassFile.FieldType), 1, 23, 1, 2)
def zm_X2_isAhead : zM := (yX2_isAhead, cX2_isAhead, 4, (Option.some Jvm.ClassFile.FieldType.boolean), 0, 0, 1, 3)
def zm_X3_init : zM := (yX3_init, cX3_init, 1, (Option.none : Option Jvm.ClassFile.FieldType), 1, 20, 2, 0)
def zm_X3_startAnew : zM := (yX3_startAnew, cX3_startAnew, 4, (Option.none : Option Jvm.ClassFile.FieldType), 0, 0, 1, 3)
def zm_X3_copyFrom : zM := (yX3_copyFrom, cX3_copyFrom, 2, (Option.none : Option Jvm.ClassFile.FieldType), 1, 60, 1, 1)
def zm_X3_has : zM := (yX3_has, cX3_has, 2, (Option.some Jvm.ClassFile.FieldType.boolean), 0, 0, 1, 1)
def zm_X3_isWithin : zM := (yX3_isWithin, cX3_isWithin, 2, (Option.some Jvm.ClassFile.FieldType.boolean), 2, 44, 1, 1)
def zm_X3_numberOf : zM := (yX3_numberOf, cX3_numberOf, 4, (Option.some Jvm.ClassFile.FieldType.int), 0, 0, 1, 2)
def zm_X3_refusalOutside : zM := (yX3_refusalOutside, cX3_refusalOutside, 6, (Option.some Jvm.ClassFile.FieldType.int), 1, 23, 1, 3)
def zm_X3_add : zM := (yX3_add, cX3_add, 6, (Option.some Jvm.ClassFile.FieldType.int), 2, 48, 1, 3)
def zm_X3_addAll : zM := (yX3_addAll, cX3_addAll, 4, (Option.none : Option Jvm.ClassFile.FieldType), 3, 73, 1, 2)
def zm_X3_takeOut : zM := (yX3_takeOut, cX3_takeOut, 3, (Option.none : Option Jvm.ClassFile.FieldType), 0, 0, 1, 1)
def zm_X3_weighedPowers : zM := (yX3_weighedPowers, cX3_weighedPowers, 6, (Option.some Jvm.ClassFile.FieldType.long), 1, 25, 1, 2)
def zm_X4_init : zM := (yX4_init, cX4_init, 1, (Option.none : Option Jvm.ClassFile.FieldType), 1, 20, 2, 0)
def zm_X4_renew : zM := (yX4_renew, cX4_renew, 3, (Option.none : Option Jvm.ClassFile.FieldType), 1, 23, 1, 2)
def zm_X4_empty : zM := (yX4_empty, cX4_empty, 1, (Option.none : Option Jvm.ClassFile.FieldType), 0, 0, 1, 0)
def zm_X4_hasNothing : zM := (yX4_hasNothing, cX4_hasNothing, 1, (Option.some Jvm.ClassFile.FieldType.boolean), 0, 0, 1, 0)
def zm_X4_isOfOtherLane : zM := (yX4_isOfOtherLane, cX4_isOfOtherLane, 2, (Option.some Jvm.ClassFile.FieldType.boolean), 0, 0, 1, 1)
def zm_X4_hasCells : zM := (yX4_hasCells, cX4_hasCells, 4, (Option.some Jvm.ClassFile.FieldType.boolean), 0, 0, 1, 2)
def zm_X4_write : zM := (yX4_write, cX4_write, 3, (Option.none : Option Jvm.ClassFile.FieldType), 0, 0, 1, 2)
def zm_X5_init : zM := (yX5_init, cX5_init, 2, (Option.none : Option Jvm.ClassFile.FieldType), 3, 60, 2, 0)
def zm_X5_begin : zM := (yX5_begin, cX5_begin, 4, (Option.some Jvm.ClassFile.FieldType.int), 1, 23, 1, 3)
def zm_X5_moment : zM := (yX5_moment, cX5_moment, 4, (Option.some Jvm.ClassFile.FieldType.long), 4, 104, 1, 3)
def zm_X5_place : zM := (yX5_place, cX5_place, 4, (Option.some Jvm.ClassFile.FieldType.int), 3, 73, 1, 3)
def zm_X5_orbit : zM := (yX5_orbit, cX5_orbit, 5, (Option.some Jvm.ClassFile.FieldType.int), 4, 96, 1, 3)
def zm_X5_places : zM := (yX5_places, cX5_places, 6, (Option.some Jvm.ClassFile.FieldType.int), 4, 107, 1, 4)
def zm_X5_drop : zM := (yX5_drop, cX5_drop, 2, (Option.some Jvm.ClassFile.FieldType.int), 1, 22, 1, 1)
def zm_X5_about : zM := (yX5_about, cX5_about, 3, (Option.some Jvm.ClassFile.FieldType.int), 5, 116, 1, 2)
def zm_X5_sum : zM := (yX5_sum, cX5_sum, 4, (Option.some Jvm.ClassFile.FieldType.long), 4, 101, 1, 3)
def zm_X5_error : zM := (yX5_error, cX5_error, 4, (Option.some Jvm.ClassFile.FieldType.long), 5, 126, 1, 3)
def zm_X5_degree : zM := (yX5_degree, cX5_degree, 3, (Option.some Jvm.ClassFile.FieldType.int), 6, 147, 1, 0)
def zm_X5_first : zM := (yX5_first, cX5_first, 3, (Option.some Jvm.ClassFile.FieldType.int), 6, 147, 1, 1)
def zm_X5_is : zM := (yX5_is, cX5_is, 2, (Option.some Jvm.ClassFile.FieldType.int), 5, 116, 1, 1)
def zm_X5_least : zM := (yX5_least, cX5_least, 3, (Option.some Jvm.ClassFile.FieldType.int), 1, 22, 1, 1)
def zm_X5_keep : zM := (yX5_keep, cX5_keep, 2, (Option.some Jvm.ClassFile.FieldType.int), 2, 81, 1, 1)
def zm_X5_load : zM := (yX5_load, cX5_load, 2, (Option.some Jvm.ClassFile.FieldType.int), 2, 81, 1, 1)
def zm_X5_pair : zM := (yX5_pair, cX5_pair, 3, (Option.some Jvm.ClassFile.FieldType.int), 5, 136, 1, 2)
def zm_X5_term : zM := (yX5_term, cX5_term, 4, (Option.some Jvm.ClassFile.FieldType.long), 1, 22, 1, 2)
def zm_X5_whole : zM := (yX5_whole, cX5_whole, 3, (Option.some Jvm.ClassFile.FieldType.long), 4, 104, 1, 1)
def zm_X5_byRule : zM := (yX5_byRule, cX5_byRule, 3, (Option.some Jvm.ClassFile.FieldType.long), 4, 104, 1, 2)
def zm_X5_sheet : zM := (yX5_sheet, cX5_sheet, 4, (Option.some Jvm.ClassFile.FieldType.int), 2, 45, 1, 3)
def zm_X5_lose : zM := (yX5_lose, cX5_lose, 2, (Option.some Jvm.ClassFile.FieldType.int), 1, 22, 1, 1)
def zm_X5_put : zM := (yX5_put, cX5_put, 5, (Option.some Jvm.ClassFile.FieldType.int), 1, 23, 1, 3)
def zm_X5_at : zM := (yX5_at, cX5_at, 6, (Option.some Jvm.ClassFile.FieldType.long), 2, 45, 1, 3)
def zm_X5_tell : zM := (yX5_tell, cX5_tell, 2, (Option.some Jvm.ClassFile.FieldType.int), 6, 137, 1, 1)
def zm_X5_count : zM := (yX5_count, cX5_count, 2, (Option.some Jvm.ClassFile.FieldType.int), 3, 65, 1, 1)
def zm_X5_as : zM := (yX5_as, cX5_as, 5, (Option.some Jvm.ClassFile.FieldType.int), 6, 137, 1, 2)
def zm_X5_trace : zM := (yX5_trace, cX5_trace, 1, (Option.some Jvm.ClassFile.FieldType.int), 0, 0, 1, 0)
def zm_X5_fault : zM := (yX5_fault, cX5_fault, 1, (Option.some Jvm.ClassFile.FieldType.int), 0, 0, 1, 0)
def zm_X5_told : zM := (yX5_told, cX5_told, 2, (Option.some Jvm.ClassFile.FieldType.int), 1, 22, 1, 1)
def zm_X5_isFrom : zM := (yX5_isFrom, cX5_isFrom, 3, (Option.some Jvm.ClassFile.FieldType.boolean), 0, 0, 0, 3)
def zm_X5_arePowers : zM := (yX5_arePowers, cX5_arePowers, 2, (Option.some Jvm.ClassFile.FieldType.boolean), 1, 22, 0, 2)
def zm_X5_power : zM := (yX5_power, cX5_power, 6, (Option.some Jvm.ClassFile.FieldType.long), 0, 0, 0, 2)
def zm_X5_fillPowers : zM := (yX5_fillPowers, cX5_fillPowers, 6, (Option.none : Option Jvm.ClassFile.FieldType), 0, 0, 0, 2)
def zm_X5_commonDivisor : zM := (yX5_commonDivisor, cX5_commonDivisor, 11, (Option.some Jvm.ClassFile.FieldType.long), 1, 21, 0, 2)
def zm_X5_liesIn : zM := (yX5_liesIn, cX5_liesIn, 4, (Option.some Jvm.ClassFile.FieldType.boolean), 1, 21, 0, 4)
def zm_X5_failed : zM := (yX5_failed, cX5_failed, 2, (Option.some Jvm.ClassFile.FieldType.int), 0, 0, 1, 1)
def zm_X5_refusalOfOrbit : zM := (yX5_refusalOfOrbit, cX5_refusalOfOrbit, 5, (Option.some Jvm.ClassFile.FieldType.int), 2, 48, 1, 1)
def zm_X5_addFrom : zM := (yX5_addFrom, cX5_addFrom, 7, (Option.some Jvm.ClassFile.FieldType.int), 3, 81, 1, 3)
def zm_X5_sizeOfOrbit : zM := (yX5_sizeOfOrbit, cX5_sizeOfOrbit, 2, (Option.some Jvm.ClassFile.FieldType.int), 4, 95, 1, 1)
def zm_X5_findSum : zM := (yX5_findSum, cX5_findSum, 3, (Option.none : Option Jvm.ClassFile.FieldType), 3, 79, 1, 2)
def zm_X5_findError : zM := (yX5_findError, cX5_findError, 3, (Option.none : Option Jvm.ClassFile.FieldType), 4, 104, 1, 2)
def zm_X5_firstWrongTerm : zM := (yX5_firstWrongTerm, cX5_firstWrongTerm, 2, (Option.some Jvm.ClassFile.FieldType.int), 5, 126, 1, 0)
def zm_X5_areAllWithin : zM := (yX5_areAllWithin, cX5_areAllWithin, 2, (Option.some Jvm.ClassFile.FieldType.boolean), 3, 65, 1, 0)
def zm_X5_areAllAbove : zM := (yX5_areAllAbove, cX5_areAllAbove, 2, (Option.some Jvm.ClassFile.FieldType.boolean), 0, 0, 1, 0)
def zm_X5_isEven : zM := (yX5_isEven, cX5_isEven, 2, (Option.some Jvm.ClassFile.FieldType.boolean), 4, 95, 1, 0)
def zm_X5_isOrbitOfWeight : zM := (yX5_isOrbitOfWeight, cX5_isOrbitOfWeight, 4, (Option.some Jvm.ClassFile.FieldType.boolean), 1, 23, 1, 1)
def zm_X5_becomePair : zM := (yX5_becomePair, cX5_becomePair, 3, (Option.none : Option Jvm.ClassFile.FieldType), 4, 111, 1, 2)
def zm_X5_findSumOfCut : zM := (yX5_findSumOfCut, cX5_findSumOfCut, 6, (Option.none : Option Jvm.ClassFile.FieldType), 3, 79, 1, 1)
def zm_X5_sumMoved : zM := (yX5_sumMoved, cX5_sumMoved, 6, (Option.some Jvm.ClassFile.FieldType.long), 2, 51, 1, 2)
def zm_X5_valueAt : zM := (yX5_valueAt, cX5_valueAt, 7, (Option.some Jvm.ClassFile.FieldType.long), 1, 25, 1, 2)
def zm_X5_faultOfReading : zM := (yX5_faultOfReading, cX5_faultOfReading, 3, (Option.some Jvm.ClassFile.FieldType.int), 1, 23, 0, 3)
def zm_X5_kindOf : zM := (yX5_kindOf, cX5_kindOf, 2, (Option.some Jvm.ClassFile.FieldType.int), 5, 116, 1, 1)
def zm_X5_leaveTrace : zM := (yX5_leaveTrace, cX5_leaveTrace, 2, (Option.none : Option Jvm.ClassFile.FieldType), 0, 0, 1, 1)
def zm_X5_tellAlone : zM := (yX5_tellAlone, cX5_tellAlone, 2, (Option.some Jvm.ClassFile.FieldType.int), 1, 21, 1, 1)
def zm_X5_tellOfMany : zM := (yX5_tellOfMany, cX5_tellOfMany, 2, (Option.some Jvm.ClassFile.FieldType.int), 5, 116, 1, 1)
def zm_X5_tellAstray : zM := (yX5_tellAstray, cX5_tellAstray, 2, (Option.some Jvm.ClassFile.FieldType.int), 2, 42, 1, 1)
def zm_X5_countLent : zM := (yX5_countLent, cX5_countLent, 2, (Option.some Jvm.ClassFile.FieldType.int), 1, 21, 1, 1)
def zm_X5_countAstray : zM := (yX5_countAstray, cX5_countAstray, 1, (Option.some Jvm.ClassFile.FieldType.int), 1, 21, 1, 0)
def zm_X5_howManyKept : zM := (yX5_howManyKept, cX5_howManyKept, 3, (Option.some Jvm.ClassFile.FieldType.int), 0, 0, 1, 0)
def zm_X6_init : zM := (yX6_init, cX6_init, 1, (Option.none : Option Jvm.ClassFile.FieldType), 1, 20, 2, 0)
def zm_X6_fails : zM := (yX6_fails, cX6_fails, 2, (Option.some Jvm.ClassFile.FieldType.int), 0, 0, 1, 1)
def zm_X6_lost : zM := (yX6_lost, cX6_lost, 2, (Option.some Jvm.ClassFile.FieldType.long), 0, 0, 1, 1)
def zm_X6_within : zM := (yX6_within, cX6_within, 6, (Option.some Jvm.ClassFile.FieldType.boolean), 0, 0, 0, 3)
def zm_X6_size : zM := (yX6_size, cX6_size, 2, (Option.some Jvm.ClassFile.FieldType.long), 0, 0, 0, 1)
def zm_X6_common : zM := (yX6_common, cX6_common, 10, (Option.some Jvm.ClassFile.FieldType.long), 1, 21, 0, 2)
def zm_X6_fraction : zM := (yX6_fraction, cX6_fraction, 7, (Option.none : Option Jvm.ClassFile.FieldType), 2, 50, 1, 2)
def zm_X6_add : zM := (yX6_add, cX6_add, 7, (Option.none : Option Jvm.ClassFile.FieldType), 3, 76, 1, 2)
def zm_X6_part : zM := (yX6_part, cX6_part, 2, (Option.some Jvm.ClassFile.FieldType.long), 0, 0, 1, 1)
def zm_X6_power : zM := (yX6_power, cX6_power, 6, (Option.some Jvm.ClassFile.FieldType.long), 0, 0, 0, 2)
def zm_X6_factorial : zM := (yX6_factorial, cX6_factorial, 4, (Option.some Jvm.ClassFile.FieldType.long), 0, 0, 0, 1)
def zm_X6_isPlace : zM := (yX6_isPlace, cX6_isPlace, 2, (Option.some Jvm.ClassFile.FieldType.boolean), 0, 0, 1, 1)
def zm_X6_isPower : zM := (yX6_isPower, cX6_isPower, 2, (Option.some Jvm.ClassFile.FieldType.boolean), 0, 0, 0, 2)
def zm_X6_begin : zM := (yX6_begin, cX6_begin, 4, (Option.some Jvm.ClassFile.FieldType.int), 1, 25, 1, 3)
def zm_X6_momentOf : zM := (yX6_momentOf, cX6_momentOf, 4, (Option.none : Option Jvm.ClassFile.FieldType), 3, 76, 1, 2)
def zm_X6_sumOf : zM := (yX6_sumOf, cX6_sumOf, 6, (Option.none : Option Jvm.ClassFile.FieldType), 3, 76, 1, 2)
def zm_X6_errorOf : zM := (yX6_errorOf, cX6_errorOf, 7, (Option.none : Option Jvm.ClassFile.FieldType), 4, 102, 1, 2)
def zm_X6_isWhich : zM := (yX6_isWhich, cX6_isWhich, 1, (Option.some Jvm.ClassFile.FieldType.boolean), 0, 0, 0, 1)
def zm_X6_moment : zM := (yX6_moment, cX6_moment, 4, (Option.some Jvm.ClassFile.FieldType.long), 4, 99, 1, 3)
def zm_X6_sum : zM := (yX6_sum, cX6_sum, 4, (Option.some Jvm.ClassFile.FieldType.long), 4, 101, 1, 3)
def zm_X6_error : zM := (yX6_error, cX6_error, 4, (Option.some Jvm.ClassFile.FieldType.long), 5, 128, 1, 3)
def zm_X6_take : zM := (yX6_take, cX6_take, 5, (Option.none : Option Jvm.ClassFile.FieldType), 0, 0, 1, 2)
def zm_X6_findOrbit : zM := (yX6_findOrbit, cX6_findOrbit, 7, (Option.none : Option Jvm.ClassFile.FieldType), 1, 24, 1, 3)
def zm_X6_isIn : zM := (yX6_isIn, cX6_isIn, 4, (Option.some Jvm.ClassFile.FieldType.boolean), 1, 21, 1, 3)
def zm_X6_placeAt : zM := (yX6_placeAt, cX6_placeAt, 4, (Option.some Jvm.ClassFile.FieldType.int), 0, 0, 1, 2)
def zm_X6_isGrid : zM := (yX6_isGrid, cX6_isGrid, 2, (Option.some Jvm.ClassFile.FieldType.boolean), 1, 25, 0, 2)
def zm_X6_isWeight : zM := (yX6_isWeight, cX6_isWeight, 2, (Option.some Jvm.ClassFile.FieldType.boolean), 1, 25, 0, 1)
def zm_X6_against : zM := (yX6_against, cX6_against, 5, (Option.some Jvm.ClassFile.FieldType.int), 2, 46, 1, 3)
def zm_X6_lay : zM := (yX6_lay, cX6_lay, 5, (Option.some Jvm.ClassFile.FieldType.int), 1, 23, 1, 3)
def zm_X6_place : zM := (yX6_place, cX6_place, 5, (Option.some Jvm.ClassFile.FieldType.int), 3, 70, 1, 3)
def zm_X6_orbit : zM := (yX6_orbit, cX6_orbit, 7, (Option.some Jvm.ClassFile.FieldType.int), 2, 50, 1, 3)
def zm_X6_places : zM := (yX6_places, cX6_places, 10, (Option.some Jvm.ClassFile.FieldType.int), 3, 70, 1, 4)
def zm_X6_drop : zM := (yX6_drop, cX6_drop, 3, (Option.some Jvm.ClassFile.FieldType.int), 1, 21, 1, 1)
def zm_X6_orbitSize : zM := (yX6_orbitSize, cX6_orbitSize, 2, (Option.some Jvm.ClassFile.FieldType.int), 2, 50, 1, 1)
def zm_X6_isInside : zM := (yX6_isInside, cX6_isInside, 2, (Option.some Jvm.ClassFile.FieldType.boolean), 2, 44, 1, 1)
def zm_X6_about : zM := (yX6_about, cX6_about, 3, (Option.some Jvm.ClassFile.FieldType.int), 3, 71, 1, 2)
def zm_X6_isRight : zM := (yX6_isRight, cX6_isRight, 3, (Option.some Jvm.ClassFile.FieldType.boolean), 5, 128, 1, 1)
def zm_X6_degree : zM := (yX6_degree, cX6_degree, 2, (Option.some Jvm.ClassFile.FieldType.int), 6, 150, 1, 0)
def zm_X6_first : zM := (yX6_first, cX6_first, 4, (Option.some Jvm.ClassFile.FieldType.int), 5, 128, 1, 1)
def zm_X6_isEven : zM := (yX6_isEven, cX6_isEven, 4, (Option.some Jvm.ClassFile.FieldType.boolean), 2, 50, 1, 1)
def zm_X6_is : zM := (yX6_is, cX6_is, 4, (Option.some Jvm.ClassFile.FieldType.int), 3, 73, 1, 1)
def zm_X6_least : zM := (yX6_least, cX6_least, 3, (Option.some Jvm.ClassFile.FieldType.int), 1, 25, 1, 1)
def zm_X6_keep : zM := (yX6_keep, cX6_keep, 3, (Option.some Jvm.ClassFile.FieldType.int), 1, 25, 1, 1)
def zm_X6_load : zM := (yX6_load, cX6_load, 3, (Option.some Jvm.ClassFile.FieldType.int), 1, 25, 1, 1)
def zm_X6_farOf : zM := (yX6_farOf, cX6_farOf, 5, (Option.some Jvm.ClassFile.FieldType.int), 0, 0, 1, 3)
def zm_X6_findReps : zM := (yX6_findReps, cX6_findReps, 4, (Option.none : Option Jvm.ClassFile.FieldType), 2, 50, 1, 1)
def zm_X6_haveWeights : zM := (yX6_haveWeights, cX6_haveWeights, 24, (Option.some Jvm.ClassFile.FieldType.boolean), 2, 50, 1, 3)
def zm_X6_layPair : zM := (yX6_layPair, cX6_layPair, 6, (Option.none : Option Jvm.ClassFile.FieldType), 2, 50, 1, 3)
def zm_X6_putAside : zM := (yX6_putAside, cX6_putAside, 2, (Option.none : Option Jvm.ClassFile.FieldType), 0, 0, 1, 0)
def zm_X6_takeBack : zM := (yX6_takeBack, cX6_takeBack, 2, (Option.none : Option Jvm.ClassFile.FieldType), 0, 0, 1, 0)
def zm_X6_pair : zM := (yX6_pair, cX6_pair, 10, (Option.some Jvm.ClassFile.FieldType.int), 6, 150, 1, 2)
def zm_X6_term : zM := (yX6_term, cX6_term, 4, (Option.some Jvm.ClassFile.FieldType.long), 1, 25, 1, 2)
def zm_X6_termOf : zM := (yX6_termOf, cX6_termOf, 2, (Option.some Jvm.ClassFile.FieldType.int), 0, 0, 0, 2)
def zm_X6_whole : zM := (yX6_whole, cX6_whole, 12, (Option.some Jvm.ClassFile.FieldType.long), 4, 102, 1, 1)
def zm_X6_valueAt : zM := (yX6_valueAt, cX6_valueAt, 11, (Option.some Jvm.ClassFile.FieldType.long), 1, 25, 1, 3)
def zm_X6_byRule : zM := (yX6_byRule, cX6_byRule, 12, (Option.some Jvm.ClassFile.FieldType.long), 3, 76, 1, 2)
def zm_X6_sheet : zM := (yX6_sheet, cX6_sheet, 5, (Option.some Jvm.ClassFile.FieldType.int), 1, 25, 1, 3)
def zm_X6_lose : zM := (yX6_lose, cX6_lose, 3, (Option.some Jvm.ClassFile.FieldType.int), 1, 25, 1, 1)
def zm_X6_put : zM := (yX6_put, cX6_put, 4, (Option.some Jvm.ClassFile.FieldType.int), 1, 25, 1, 3)
def zm_X6_at : zM := (yX6_at, cX6_at, 4, (Option.some Jvm.ClassFile.FieldType.long), 1, 25, 1, 3)
def zm_X6_begins : zM := (yX6_begins, cX6_begins, 2, (Option.none : Option Jvm.ClassFile.FieldType), 0, 0, 1, 1)
def zm_X6_tell : zM := (yX6_tell, cX6_tell, 3, (Option.some Jvm.ClassFile.FieldType.int), 3, 71, 1, 1)
def zm_X6_count : zM := (yX6_count, cX6_count, 3, (Option.some Jvm.ClassFile.FieldType.int), 3, 65, 1, 1)
def zm_X6_as : zM := (yX6_as, cX6_as, 4, (Option.some Jvm.ClassFile.FieldType.int), 3, 71, 1, 2)
def zm_X6_trace : zM := (yX6_trace, cX6_trace, 1, (Option.some Jvm.ClassFile.FieldType.int), 0, 0, 1, 0)
def zm_X6_fault : zM := (yX6_fault, cX6_fault, 1, (Option.some Jvm.ClassFile.FieldType.int), 0, 0, 1, 0)
def zm_X6_told : zM := (yX6_told, cX6_told, 4, (Option.some Jvm.ClassFile.FieldType.int), 0, 0, 1, 1)
def zm_J7_fill_d0a16 : zM := (yJ7_fill_d0a16, cJ7_fill_d0a16, 5, (Option.none : Option Jvm.ClassFile.FieldType), 0, 0, 0, 2)
def zm_J7_fill_53178 : zM := (yJ7_fill_53178, cJ7_fill_53178, 4, (Option.none : Option Jvm.ClassFile.FieldType), 0, 0, 0, 2)
def zm_L_law : zM := (yL_law, cL_law, maxLocals, ret, 7, 179, 0, 1)
def zmt : Nat → zM := (ztr 83 (ztr 41 (ztr 20 (ztr 10 (ztr 5 (ztr 2 (ztr 1 (fun _ => zm_X0_init) (fun _ => zm_X0_become)) (ztr 3 (fun _ => zm_X0_addTimes) (ztr 4 (fun _ => zm_X0_becomeMoment) (fun _ => zm_X0_showing)))) (ztr 7 (ztr 6 (fun _ => zm_X1_init) (fun _ => zm_X1_gather)) (ztr 8 (fun _ => zm_X1_isLeastOfOrbit) (ztr 9 (fun _ => zm_X1_append) (fun _ => zm_X1_addPowers))))) (ztr 15 (ztr 12 (ztr 11 (fun _ => zm_X1_findFewest) (fun _ => zm_X1_weigh)) (ztr 13 (fun _ => zm_X1_bringToOneLower) (ztr 14 (fun _ => zm_X1_isRightUpTo) (fun _ => zm_X2_init)))) (ztr 17 (ztr 16 (fun _ => zm_X2_gather) (fun _ => zm_X2_insertBothWays)) (ztr 18 (fun _ => zm_X2_insert) (ztr 19 (fun _ => zm_X2_isAhead) (fun _ => zm_X3_init)))))) (ztr 30 (ztr 25 (ztr 22 (ztr 21 (fun _ => zm_X3_startAnew) (fun _ => zm_X3_copyFrom)) (ztr 23 (fun _ => zm_X3_has) (ztr 24 (fun _ => zm_X3_isWithin) (fun _ => zm_X3_numberOf)))) (ztr 27 (ztr 26 (fun _ => zm_X3_refusalOutside) (fun _ => zm_X3_add)) (ztr 28 (fun _ => zm_X3_addAll) (ztr 29 (fun _ => zm_X3_takeOut) (fun _ => zm_X3_weighedPowers))))) (ztr 35 (ztr 32 (ztr 31 (fun _ => zm_X4_init) (fun _ => zm_X4_renew)) (ztr 33 (fun _ => zm_X4_empty) (ztr 34 (fun _ => zm_X4_hasNothing) (fun _ => zm_X4_isOfOtherLane)))) (ztr 38 (ztr 36 (fun _ => zm_X4_hasCells) (ztr 37 (fun _ => zm_X4_write) (fun _ => zm_X5_init))) (ztr 39 (fun _ => zm_X5_begin) (ztr 40 (fun _ => zm_X5_moment) (fun _ => zm_X5_place))))))) (ztr 62 (ztr 51 (ztr 46 (ztr 43 (ztr 42 (fun _ => zm_X5_orbit) (fun _ => zm_X5_places)) (ztr 44 (fun _ => zm_X5_drop) (ztr 45 (fun _ => zm_X5_about) (fun _ => zm_X5_sum)))) (ztr 48 (ztr 47 (fun _ => zm_X5_error) (fun _ => zm_X5_degree)) (ztr 49 (fun _ => zm_X5_first) (ztr 50 (fun _ => zm_X5_is) (fun _ => zm_X5_least))))) (ztr 56 (ztr 53 (ztr 52 (fun _ => zm_X5_keep) (fun _ => zm_X5_load)) (ztr 54 (fun _ => zm_X5_pair) (ztr 55 (fun _ => zm_X5_term) (fun _ => zm_X5_whole)))) (ztr 59 (ztr 57 (fun _ => zm_X5_byRule) (ztr 58 (fun _ => zm_X5_sheet) (fun _ => zm_X5_lose))) (ztr 60 (fun _ => zm_X5_put) (ztr 61 (fun _ => zm_X5_at) (fun _ => zm_X5_tell)))))) (ztr 72 (ztr 67 (ztr 64 (ztr 63 (fun _ => zm_X5_count) (fun _ => zm_X5_as)) (ztr 65 (fun _ => zm_X5_trace) (ztr 66 (fun _ => zm_X5_fault) (fun _ => zm_X5_told)))) (ztr 69 (ztr 68 (fun _ => zm_X5_isFrom) (fun _ => zm_X5_arePowers)) (ztr 70 (fun _ => zm_X5_power) (ztr 71 (fun _ => zm_X5_fillPowers) (fun _ => zm_X5_commonDivisor))))) (ztr 77 (ztr 74 (ztr 73 (fun _ => zm_X5_liesIn) (fun _ => zm_X5_failed)) (ztr 75 (fun _ => zm_X5_refusalOfOrbit) (ztr 76 (fun _ => zm_X5_addFrom) (fun _ => zm_X5_sizeOfOrbit)))) (ztr 80 (ztr 78 (fun _ => zm_X5_findSum) (ztr 79 (fun _ => zm_X5_findError) (fun _ => zm_X5_firstWrongTerm))) (ztr 81 (fun _ => zm_X5_areAllWithin) (ztr 82 (fun _ => zm_X5_areAllAbove) (fun _ => zm_X5_isEven)))))))) (ztr 125 (ztr 104 (ztr 93 (ztr 88 (ztr 85 (ztr 84 (fun _ => zm_X5_isOrbitOfWeight) (fun _ => zm_X5_becomePair)) (ztr 86 (fun _ => zm_X5_findSumOfCut) (ztr 87 (fun _ => zm_X5_sumMoved) (fun _ => zm_X5_valueAt)))) (ztr 90 (ztr 89 (fun _ => zm_X5_faultOfReading) (fun _ => zm_X5_kindOf)) (ztr 91 (fun _ => zm_X5_leaveTrace) (ztr 92 (fun _ => zm_X5_tellAlone) (fun _ => zm_X5_tellOfMany))))) (ztr 98 (ztr 95 (ztr 94 (fun _ => zm_X5_tellAstray) (fun _ => zm_X5_countLent)) (ztr 96 (fun _ => zm_X5_countAstray) (ztr 97 (fun _ => zm_X5_howManyKept) (fun _ => zm_X6_init)))) (ztr 101 (ztr 99 (fun _ => zm_X6_fails) (ztr 100 (fun _ => zm_X6_lost) (fun _ => zm_X6_within))) (ztr 102 (fun _ => zm_X6_size) (ztr 103 (fun _ => zm_X6_common) (fun _ => zm_X6_fraction)))))) (ztr 114 (ztr 109 (ztr 106 (ztr 105 (fun _ => zm_X6_add) (fun _ => zm_X6_part)) (ztr 107 (fun _ => zm_X6_power) (ztr 108 (fun _ => zm_X6_factorial) (fun _ => zm_X6_isPlace)))) (ztr 111 (ztr 110 (fun _ => zm_X6_isPower) (fun _ => zm_X6_begin)) (ztr 112 (fun _ => zm_X6_momentOf) (ztr 113 (fun _ => zm_X6_sumOf) (fun _ => zm_X6_errorOf))))) (ztr 119 (ztr 116 (ztr 115 (fun _ => zm_X6_isWhich) (fun _ => zm_X6_moment)) (ztr 117 (fun _ => zm_X6_sum) (ztr 118 (fun _ => zm_X6_error) (fun _ => zm_X6_take)))) (ztr 122 (ztr 120 (fun _ => zm_X6_findOrbit) (ztr 121 (fun _ => zm_X6_isIn) (fun _ => zm_X6_placeAt))) (ztr 123 (fun _ => zm_X6_isGrid) (ztr 124 (fun _ => zm_X6_isWeight) (fun _ => zm_X6_against))))))) (ztr 146 (ztr 135 (ztr 130 (ztr 127 (ztr 126 (fun _ => zm_X6_lay) (fun _ => zm_X6_place)) (ztr 128 (fun _ => zm_X6_orbit) (ztr 129 (fun _ => zm_X6_places) (fun _ => zm_X6_drop)))) (ztr 132 (ztr 131 (fun _ => zm_X6_orbitSize) (fun _ => zm_X6_isInside)) (ztr 133 (fun _ => zm_X6_about) (ztr 134 (fun _ => zm_X6_isRight) (fun _ => zm_X6_degree))))) (ztr 140 (ztr 137 (ztr 136 (fun _ => zm_X6_first) (fun _ => zm_X6_isEven)) (ztr 138 (fun _ => zm_X6_is) (ztr 139 (fun _ => zm_X6_least) (fun _ => zm_X6_keep)))) (ztr 143 (ztr 141 (fun _ => zm_X6_load) (ztr 142 (fun _ => zm_X6_farOf) (fun _ => zm_X6_findReps))) (ztr 144 (fun _ => zm_X6_haveWeights) (ztr 145 (fun _ => zm_X6_layPair) (fun _ => zm_X6_putAside)))))) (ztr 156 (ztr 151 (ztr 148 (ztr 147 (fun _ => zm_X6_takeBack) (fun _ => zm_X6_pair)) (ztr 149 (fun _ => zm_X6_term) (ztr 150 (fun _ => zm_X6_termOf) (fun _ => zm_X6_whole)))) (ztr 153 (ztr 152 (fun _ => zm_X6_valueAt) (fun _ => zm_X6_byRule)) (ztr 154 (fun _ => zm_X6_sheet) (ztr 155 (fun _ => zm_X6_lose) (fun _ => zm_X6_put))))) (ztr 161 (ztr 158 (ztr 157 (fun _ => zm_X6_at) (fun _ => zm_X6_begins)) (ztr 159 (fun _ => zm_X6_tell) (ztr 160 (fun _ => zm_X6_count) (fun _ => zm_X6_as)))) (ztr 164 (ztr 162 (fun _ => zm_X6_trace) (ztr 163 (fun _ => zm_X6_fault) (fun _ => zm_X6_told))) (ztr 165 (fun _ => zm_J7_fill_d0a16) (ztr 166 (fun _ => zm_J7_fill_53178) (fun _ => zm_L_law)))))))))
set_option maxRecDepth 100000 in
theorem zmok_X0_init : zmok zm_X0_init := ⟨List.mem_of_getElem? (i := 142) rfl, 55, 141, 0, by decide +kernel⟩
set_option maxRecDepth 100000 in
theorem zmok_X0_become : zmok zm_X0_become := ⟨List.mem_of_getElem? (i := 316) rfl, 55, 314, 315, by decide +kernel⟩
set_option maxRecDepth 100000 in
theorem zmok_X0_addTimes : zmok zm_X0_addTimes := ⟨List.mem_of_getElem? (i := 470) rfl, 55, 468, 469, by decide +kernel⟩
set_option maxRecDepth 100000 in
theorem zmok_X0_becomeMoment : zmok zm_X0_becomeMoment := ⟨List.mem_of_getElem? (i := 311) rfl, 55, 309, 310, by decide +kernel⟩
set_option maxRecDepth 100000 in
theorem zmok_X0_showing : zmok zm_X0_showing := ⟨List.mem_of_getElem? (i := 329) rfl, 55, 327, 328, by decide +kernel⟩
set_option maxRecDepth 100000 in
theorem zmok_X1_init : zmok zm_X1_init := ⟨List.mem_of_getElem? (i := 134) rfl, 54, 133, 0, by decide +kernel⟩
set_option maxRecDepth 100000 in
theorem zmok_X1_gather : zmok zm_X1_gather := ⟨List.mem_of_getElem? (i := 526) rfl, 54, 524, 525, by decide +kernel⟩
set_option maxRecDepth 100000 in
theorem zmok_X1_isLeastOfOrbit : zmok zm_X1_isLeastOfOrbit := ⟨List.mem_of_getElem? (i := 530) rfl, 54, 528, 529, by decide +kernel⟩
set_option maxRecDepth 100000 in
theorem zmok_X1_append : zmok zm_X1_append := ⟨List.mem_of_getElem? (i := 536) rfl, 54, 534, 535, by decide +kernel⟩
set_option maxRecDepth 100000 in
theorem zmok_X1_addPowers : zmok zm_X1_addPowers := ⟨List.mem_of_getElem? (i := 543) rfl, 54, 541, 542, by decide +kernel⟩
set_option maxRecDepth 100000 in
theorem zmok_X1_findFewest : zmok zm_X1_findFewest := ⟨List.mem_of_getElem? (i := 554) rfl, 54, 552, 553, by decide +kernel⟩
set_option maxRecDepth 100000 in
theorem zmok_X1_weigh : zmok zm_X1_weigh := ⟨List.mem_of_getElem? (i := 558) rfl, 54, 556, 557, by decide +kernel⟩
set_option maxRecDepth 100000 in
theorem zmok_X1_bringToOneLower : zmok zm_X1_bringToOneLower := ⟨List.mem_of_getElem? (i := 563) rfl, 54, 561, 562, by decide +kernel⟩
set_option maxRecDepth 100000 in
theorem zmok_X1_isRightUpTo : zmok zm_X1_isRightUpTo := ⟨List.mem_of_getElem? (i := 569) rfl, 54, 567, 568, by decide +kernel⟩
set_option maxRecDepth 100000 in
theorem zmok_X2_init : zmok zm_X2_init := ⟨List.mem_of_getElem? (i := 109) rfl, 53, 108, 0, by decide +kernel⟩
set_option maxRecDepth 100000 in
theorem zmok_X2_gather : zmok zm_X2_gather := ⟨List.mem_of_getElem? (i := 354) rfl, 53, 352, 353, by decide +kernel⟩
set_option maxRecDepth 100000 in
theorem zmok_X2_insertBothWays : zmok zm_X2_insertBothWays := ⟨List.mem_of_getElem? (i := 358) rfl, 53, 356, 357, by decide +kernel⟩
set_option maxRecDepth 100000 in
theorem zmok_X2_insert : zmok zm_X2_insert := ⟨List.mem_of_getElem? (i := 362) rfl, 53, 360, 361, by decide +kernel⟩
set_option maxRecDepth 100000 in
theorem zmok_X2_isAhead : zmok zm_X2_isAhead := ⟨List.mem_of_getElem? (i := 366) rfl, 53, 364, 365, by decide +kernel⟩
set_option maxRecDepth 100000 in
theorem zmok_X3_init : zmok zm_X3_init := ⟨List.mem_of_getElem? (i := 73) rfl, 52, 72, 0, by decide +kernel⟩
set_option maxRecDepth 100000 in
theorem zmok_X3_startAnew : zmok zm_X3_startAnew := ⟨List.mem_of_getElem? (i := 299) rfl, 52, 297, 298, by decide +kernel⟩
set_option maxRecDepth 100000 in
theorem zmok_X3_copyFrom : zmok zm_X3_copyFrom := ⟨List.mem_of_getElem? (i := 406) rfl, 52, 404, 405, by decide +kernel⟩
set_option maxRecDepth 100000 in
theorem zmok_X3_has : zmok zm_X3_has := ⟨List.mem_of_getElem? (i := 418) rfl, 52, 416, 417, by decide +kernel⟩
set_option maxRecDepth 100000 in
theorem zmok_X3_isWithin : zmok zm_X3_isWithin := ⟨List.mem_of_getElem? (i := 434) rfl, 52, 432, 433, by decide +kernel⟩
set_option maxRecDepth 100000 in
theorem zmok_X3_numberOf : zmok zm_X3_numberOf := ⟨List.mem_of_getElem? (i := 346) rfl, 52, 344, 345, by decide +kernel⟩
set_option maxRecDepth 100000 in
theorem zmok_X3_refusalOutside : zmok zm_X3_refusalOutside := ⟨List.mem_of_getElem? (i := 341) rfl, 52, 339, 340, by decide +kernel⟩
set_option maxRecDepth 100000 in
theorem zmok_X3_add : zmok zm_X3_add := ⟨List.mem_of_getElem? (i := 337) rfl, 52, 335, 336, by decide +kernel⟩
set_option maxRecDepth 100000 in
theorem zmok_X3_addAll : zmok zm_X3_addAll := ⟨List.mem_of_getElem? (i := 376) rfl, 52, 374, 375, by decide +kernel⟩
set_option maxRecDepth 100000 in
theorem zmok_X3_takeOut : zmok zm_X3_takeOut := ⟨List.mem_of_getElem? (i := 422) rfl, 52, 420, 421, by decide +kernel⟩
set_option maxRecDepth 100000 in
theorem zmok_X3_weighedPowers : zmok zm_X3_weighedPowers := ⟨List.mem_of_getElem? (i := 452) rfl, 52, 450, 451, by decide +kernel⟩
set_option maxRecDepth 100000 in
theorem zmok_X4_init : zmok zm_X4_init := ⟨List.mem_of_getElem? (i := 229) rfl, 56, 228, 0, by decide +kernel⟩
set_option maxRecDepth 100000 in
theorem zmok_X4_renew : zmok zm_X4_renew := ⟨List.mem_of_getElem? (i := 607) rfl, 56, 605, 606, by decide +kernel⟩
set_option maxRecDepth 100000 in
theorem zmok_X4_empty : zmok zm_X4_empty := ⟨List.mem_of_getElem? (i := 618) rfl, 56, 616, 617, by decide +kernel⟩
set_option maxRecDepth 100000 in
theorem zmok_X4_hasNothing : zmok zm_X4_hasNothing := ⟨List.mem_of_getElem? (i := 393) rfl, 56, 391, 392, by decide +kernel⟩
set_option maxRecDepth 100000 in
theorem zmok_X4_isOfOtherLane : zmok zm_X4_isOfOtherLane := ⟨List.mem_of_getElem? (i := 385) rfl, 56, 383, 384, by decide +kernel⟩
set_option maxRecDepth 100000 in
theorem zmok_X4_hasCells : zmok zm_X4_hasCells := ⟨List.mem_of_getElem? (i := 398) rfl, 56, 396, 397, by decide +kernel⟩
set_option maxRecDepth 100000 in
theorem zmok_X4_write : zmok zm_X4_write := ⟨List.mem_of_getElem? (i := 626) rfl, 56, 624, 625, by decide +kernel⟩
set_option maxRecDepth 100000 in
theorem zmok_X5_init : zmok zm_X5_init := ⟨List.mem_of_getElem? (i := 65) rfl, 51, 64, 0, by decide +kernel⟩
set_option maxRecDepth 100000 in
theorem zmok_X5_begin : zmok zm_X5_begin := ⟨List.mem_of_getElem? (i := 292) rfl, 51, 290, 291, by decide +kernel⟩
set_option maxRecDepth 100000 in
theorem zmok_X5_moment : zmok zm_X5_moment := ⟨List.mem_of_getElem? (i := 303) rfl, 51, 301, 302, by decide +kernel⟩
set_option maxRecDepth 100000 in
theorem zmok_X5_place : zmok zm_X5_place := ⟨List.mem_of_getElem? (i := 333) rfl, 51, 331, 332, by decide +kernel⟩
set_option maxRecDepth 100000 in
theorem zmok_X5_orbit : zmok zm_X5_orbit := ⟨List.mem_of_getElem? (i := 350) rfl, 51, 348, 349, by decide +kernel⟩
set_option maxRecDepth 100000 in
theorem zmok_X5_places : zmok zm_X5_places := ⟨List.mem_of_getElem? (i := 381) rfl, 51, 379, 380, by decide +kernel⟩
set_option maxRecDepth 100000 in
theorem zmok_X5_drop : zmok zm_X5_drop := ⟨List.mem_of_getElem? (i := 414) rfl, 51, 412, 413, by decide +kernel⟩
set_option maxRecDepth 100000 in
theorem zmok_X5_about : zmok zm_X5_about := ⟨List.mem_of_getElem? (i := 426) rfl, 51, 424, 425, by decide +kernel⟩
set_option maxRecDepth 100000 in
theorem zmok_X5_sum : zmok zm_X5_sum := ⟨List.mem_of_getElem? (i := 444) rfl, 51, 442, 443, by decide +kernel⟩
set_option maxRecDepth 100000 in
theorem zmok_X5_error : zmok zm_X5_error := ⟨List.mem_of_getElem? (i := 461) rfl, 51, 459, 460, by decide +kernel⟩
set_option maxRecDepth 100000 in
theorem zmok_X5_degree : zmok zm_X5_degree := ⟨List.mem_of_getElem? (i := 474) rfl, 51, 472, 473, by decide +kernel⟩
set_option maxRecDepth 100000 in
theorem zmok_X5_first : zmok zm_X5_first := ⟨List.mem_of_getElem? (i := 486) rfl, 51, 484, 485, by decide +kernel⟩
set_option maxRecDepth 100000 in
theorem zmok_X5_is : zmok zm_X5_is := ⟨List.mem_of_getElem? (i := 490) rfl, 51, 488, 489, by decide +kernel⟩
set_option maxRecDepth 100000 in
theorem zmok_X5_least : zmok zm_X5_least := ⟨List.mem_of_getElem? (i := 510) rfl, 51, 508, 509, by decide +kernel⟩
set_option maxRecDepth 100000 in
theorem zmok_X5_keep : zmok zm_X5_keep := ⟨List.mem_of_getElem? (i := 514) rfl, 51, 512, 513, by decide +kernel⟩
set_option maxRecDepth 100000 in
theorem zmok_X5_load : zmok zm_X5_load := ⟨List.mem_of_getElem? (i := 518) rfl, 51, 516, 517, by decide +kernel⟩
set_option maxRecDepth 100000 in
theorem zmok_X5_pair : zmok zm_X5_pair := ⟨List.mem_of_getElem? (i := 522) rfl, 51, 520, 521, by decide +kernel⟩
set_option maxRecDepth 100000 in
theorem zmok_X5_term : zmok zm_X5_term := ⟨List.mem_of_getElem? (i := 578) rfl, 51, 576, 577, by decide +kernel⟩
set_option maxRecDepth 100000 in
theorem zmok_X5_whole : zmok zm_X5_whole := ⟨List.mem_of_getElem? (i := 582) rfl, 51, 580, 581, by decide +kernel⟩
set_option maxRecDepth 100000 in
theorem zmok_X5_byRule : zmok zm_X5_byRule := ⟨List.mem_of_getElem? (i := 586) rfl, 51, 584, 585, by decide +kernel⟩
set_option maxRecDepth 100000 in
theorem zmok_X5_sheet : zmok zm_X5_sheet := ⟨List.mem_of_getElem? (i := 603) rfl, 51, 601, 602, by decide +kernel⟩
set_option maxRecDepth 100000 in
theorem zmok_X5_lose : zmok zm_X5_lose := ⟨List.mem_of_getElem? (i := 614) rfl, 51, 612, 613, by decide +kernel⟩
set_option maxRecDepth 100000 in
theorem zmok_X5_put : zmok zm_X5_put := ⟨List.mem_of_getElem? (i := 622) rfl, 51, 620, 621, by decide +kernel⟩
set_option maxRecDepth 100000 in
theorem zmok_X5_at : zmok zm_X5_at := ⟨List.mem_of_getElem? (i := 630) rfl, 51, 628, 629, by decide +kernel⟩
set_option maxRecDepth 100000 in
theorem zmok_X5_tell : zmok zm_X5_tell := ⟨List.mem_of_getElem? (i := 637) rfl, 51, 635, 636, by decide +kernel⟩
set_option maxRecDepth 100000 in
theorem zmok_X5_count : zmok zm_X5_count := ⟨List.mem_of_getElem? (i := 661) rfl, 51, 659, 660, by decide +kernel⟩
set_option maxRecDepth 100000 in
theorem zmok_X5_as : zmok zm_X5_as := ⟨List.mem_of_getElem? (i := 673) rfl, 51, 671, 672, by decide +kernel⟩
set_option maxRecDepth 100000 in
theorem zmok_X5_trace : zmok zm_X5_trace := ⟨List.mem_of_getElem? (i := 677) rfl, 51, 675, 676, by decide +kernel⟩
set_option maxRecDepth 100000 in
theorem zmok_X5_fault : zmok zm_X5_fault := ⟨List.mem_of_getElem? (i := 681) rfl, 51, 679, 680, by decide +kernel⟩
set_option maxRecDepth 100000 in
theorem zmok_X5_told : zmok zm_X5_told := ⟨List.mem_of_getElem? (i := 685) rfl, 51, 683, 684, by decide +kernel⟩
set_option maxRecDepth 100000 in
theorem zmok_X5_isFrom : zmok zm_X5_isFrom := ⟨List.mem_of_getElem? (i := 295) rfl, 51, 294, 0, by decide +kernel⟩
set_option maxRecDepth 100000 in
theorem zmok_X5_arePowers : zmok zm_X5_arePowers := ⟨List.mem_of_getElem? (i := 306) rfl, 51, 305, 0, by decide +kernel⟩
set_option maxRecDepth 100000 in
theorem zmok_X5_power : zmok zm_X5_power := ⟨List.mem_of_getElem? (i := 455) rfl, 51, 454, 0, by decide +kernel⟩
set_option maxRecDepth 100000 in
theorem zmok_X5_fillPowers : zmok zm_X5_fillPowers := ⟨List.mem_of_getElem? (i := 546) rfl, 51, 545, 0, by decide +kernel⟩
set_option maxRecDepth 100000 in
theorem zmok_X5_commonDivisor : zmok zm_X5_commonDivisor := ⟨List.mem_of_getElem? (i := 319) rfl, 51, 318, 0, by decide +kernel⟩
set_option maxRecDepth 100000 in
theorem zmok_X5_liesIn : zmok zm_X5_liesIn := ⟨List.mem_of_getElem? (i := 437) rfl, 51, 436, 0, by decide +kernel⟩
set_option maxRecDepth 100000 in
theorem zmok_X5_failed : zmok zm_X5_failed := ⟨List.mem_of_getElem? (i := 389) rfl, 51, 388, 1, by decide +kernel⟩
set_option maxRecDepth 100000 in
theorem zmok_X5_refusalOfOrbit : zmok zm_X5_refusalOfOrbit := ⟨List.mem_of_getElem? (i := 370) rfl, 51, 369, 0, by decide +kernel⟩
set_option maxRecDepth 100000 in
theorem zmok_X5_addFrom : zmok zm_X5_addFrom := ⟨List.mem_of_getElem? (i := 402) rfl, 51, 401, 2, by decide +kernel⟩
set_option maxRecDepth 100000 in
theorem zmok_X5_sizeOfOrbit : zmok zm_X5_sizeOfOrbit := ⟨List.mem_of_getElem? (i := 430) rfl, 51, 429, 3, by decide +kernel⟩
set_option maxRecDepth 100000 in
theorem zmok_X5_findSum : zmok zm_X5_findSum := ⟨List.mem_of_getElem? (i := 448) rfl, 51, 447, 4, by decide +kernel⟩
set_option maxRecDepth 100000 in
theorem zmok_X5_findError : zmok zm_X5_findError := ⟨List.mem_of_getElem? (i := 465) rfl, 51, 464, 5, by decide +kernel⟩
set_option maxRecDepth 100000 in
theorem zmok_X5_firstWrongTerm : zmok zm_X5_firstWrongTerm := ⟨List.mem_of_getElem? (i := 478) rfl, 51, 477, 6, by decide +kernel⟩
set_option maxRecDepth 100000 in
theorem zmok_X5_areAllWithin : zmok zm_X5_areAllWithin := ⟨List.mem_of_getElem? (i := 494) rfl, 51, 493, 7, by decide +kernel⟩
set_option maxRecDepth 100000 in
theorem zmok_X5_areAllAbove : zmok zm_X5_areAllAbove := ⟨List.mem_of_getElem? (i := 498) rfl, 51, 497, 8, by decide +kernel⟩
set_option maxRecDepth 100000 in
theorem zmok_X5_isEven : zmok zm_X5_isEven := ⟨List.mem_of_getElem? (i := 502) rfl, 51, 501, 9, by decide +kernel⟩
set_option maxRecDepth 100000 in
theorem zmok_X5_isOrbitOfWeight : zmok zm_X5_isOrbitOfWeight := ⟨List.mem_of_getElem? (i := 506) rfl, 51, 505, 10, by decide +kernel⟩
set_option maxRecDepth 100000 in
theorem zmok_X5_becomePair : zmok zm_X5_becomePair := ⟨List.mem_of_getElem? (i := 573) rfl, 51, 572, 11, by decide +kernel⟩
set_option maxRecDepth 100000 in
theorem zmok_X5_findSumOfCut : zmok zm_X5_findSumOfCut := ⟨List.mem_of_getElem? (i := 590) rfl, 51, 589, 12, by decide +kernel⟩
set_option maxRecDepth 100000 in
theorem zmok_X5_sumMoved : zmok zm_X5_sumMoved := ⟨List.mem_of_getElem? (i := 595) rfl, 51, 594, 13, by decide +kernel⟩
set_option maxRecDepth 100000 in
theorem zmok_X5_valueAt : zmok zm_X5_valueAt := ⟨List.mem_of_getElem? (i := 599) rfl, 51, 598, 14, by decide +kernel⟩
set_option maxRecDepth 100000 in
theorem zmok_X5_faultOfReading : zmok zm_X5_faultOfReading := ⟨List.mem_of_getElem? (i := 633) rfl, 51, 632, 0, by decide +kernel⟩
set_option maxRecDepth 100000 in
theorem zmok_X5_kindOf : zmok zm_X5_kindOf := ⟨List.mem_of_getElem? (i := 641) rfl, 51, 640, 15, by decide +kernel⟩
set_option maxRecDepth 100000 in
theorem zmok_X5_leaveTrace : zmok zm_X5_leaveTrace := ⟨List.mem_of_getElem? (i := 649) rfl, 51, 648, 17, by decide +kernel⟩
set_option maxRecDepth 100000 in
theorem zmok_X5_tellAlone : zmok zm_X5_tellAlone := ⟨List.mem_of_getElem? (i := 645) rfl, 51, 644, 16, by decide +kernel⟩
set_option maxRecDepth 100000 in
theorem zmok_X5_tellOfMany : zmok zm_X5_tellOfMany := ⟨List.mem_of_getElem? (i := 653) rfl, 51, 652, 18, by decide +kernel⟩
set_option maxRecDepth 100000 in
theorem zmok_X5_tellAstray : zmok zm_X5_tellAstray := ⟨List.mem_of_getElem? (i := 657) rfl, 51, 656, 19, by decide +kernel⟩
set_option maxRecDepth 100000 in
theorem zmok_X5_countLent : zmok zm_X5_countLent := ⟨List.mem_of_getElem? (i := 665) rfl, 51, 664, 20, by decide +kernel⟩
set_option maxRecDepth 100000 in
theorem zmok_X5_countAstray : zmok zm_X5_countAstray := ⟨List.mem_of_getElem? (i := 669) rfl, 51, 668, 21, by decide +kernel⟩
set_option maxRecDepth 100000 in
theorem zmok_X5_howManyKept : zmok zm_X5_howManyKept := ⟨List.mem_of_getElem? (i := 689) rfl, 51, 688, 22, by decide +kernel⟩
set_option maxRecDepth 100000 in
theorem zmok_X6_init : zmok zm_X6_init := ⟨List.mem_of_getElem? (i := 694) rfl, 57, 693, 0, by decide +kernel⟩
set_option maxRecDepth 100000 in
theorem zmok_X6_fails : zmok zm_X6_fails := ⟨List.mem_of_getElem? (i := 928) rfl, 57, 927, 34, by decide +kernel⟩
set_option maxRecDepth 100000 in
theorem zmok_X6_lost : zmok zm_X6_lost := ⟨List.mem_of_getElem? (i := 1057) rfl, 57, 1056, 48, by decide +kernel⟩
set_option maxRecDepth 100000 in
theorem zmok_X6_within : zmok zm_X6_within := ⟨List.mem_of_getElem? (i := 824) rfl, 57, 823, 0, by decide +kernel⟩
set_option maxRecDepth 100000 in
theorem zmok_X6_size : zmok zm_X6_size := ⟨List.mem_of_getElem? (i := 851) rfl, 57, 850, 0, by decide +kernel⟩
set_option maxRecDepth 100000 in
theorem zmok_X6_common : zmok zm_X6_common := ⟨List.mem_of_getElem? (i := 848) rfl, 57, 847, 0, by decide +kernel⟩
set_option maxRecDepth 100000 in
theorem zmok_X6_fraction : zmok zm_X6_fraction := ⟨List.mem_of_getElem? (i := 845) rfl, 57, 844, 24, by decide +kernel⟩
set_option maxRecDepth 100000 in
theorem zmok_X6_add : zmok zm_X6_add := ⟨List.mem_of_getElem? (i := 882) rfl, 57, 881, 28, by decide +kernel⟩
set_option maxRecDepth 100000 in
theorem zmok_X6_part : zmok zm_X6_part := ⟨List.mem_of_getElem? (i := 859) rfl, 57, 858, 25, by decide +kernel⟩
set_option maxRecDepth 100000 in
theorem zmok_X6_power : zmok zm_X6_power := ⟨List.mem_of_getElem? (i := 870) rfl, 57, 869, 0, by decide +kernel⟩
set_option maxRecDepth 100000 in
theorem zmok_X6_factorial : zmok zm_X6_factorial := ⟨List.mem_of_getElem? (i := 855) rfl, 57, 854, 0, by decide +kernel⟩
set_option maxRecDepth 100000 in
theorem zmok_X6_isPlace : zmok zm_X6_isPlace := ⟨List.mem_of_getElem? (i := 936) rfl, 57, 935, 35, by decide +kernel⟩
set_option maxRecDepth 100000 in
theorem zmok_X6_isPower : zmok zm_X6_isPower := ⟨List.mem_of_getElem? (i := 833) rfl, 57, 832, 0, by decide +kernel⟩
set_option maxRecDepth 100000 in
theorem zmok_X6_begin : zmok zm_X6_begin := ⟨List.mem_of_getElem? (i := 820) rfl, 57, 818, 819, by decide +kernel⟩
set_option maxRecDepth 100000 in
theorem zmok_X6_momentOf : zmok zm_X6_momentOf := ⟨List.mem_of_getElem? (i := 841) rfl, 57, 840, 23, by decide +kernel⟩
set_option maxRecDepth 100000 in
theorem zmok_X6_sumOf : zmok zm_X6_sumOf := ⟨List.mem_of_getElem? (i := 867) rfl, 57, 866, 26, by decide +kernel⟩
set_option maxRecDepth 100000 in
theorem zmok_X6_errorOf : zmok zm_X6_errorOf := ⟨List.mem_of_getElem? (i := 878) rfl, 57, 877, 27, by decide +kernel⟩
set_option maxRecDepth 100000 in
theorem zmok_X6_isWhich : zmok zm_X6_isWhich := ⟨List.mem_of_getElem? (i := 836) rfl, 57, 835, 0, by decide +kernel⟩
set_option maxRecDepth 100000 in
theorem zmok_X6_moment : zmok zm_X6_moment := ⟨List.mem_of_getElem? (i := 830) rfl, 57, 828, 829, by decide +kernel⟩
set_option maxRecDepth 100000 in
theorem zmok_X6_sum : zmok zm_X6_sum := ⟨List.mem_of_getElem? (i := 863) rfl, 57, 861, 862, by decide +kernel⟩
set_option maxRecDepth 100000 in
theorem zmok_X6_error : zmok zm_X6_error := ⟨List.mem_of_getElem? (i := 874) rfl, 57, 872, 873, by decide +kernel⟩
set_option maxRecDepth 100000 in
theorem zmok_X6_take : zmok zm_X6_take := ⟨List.mem_of_getElem? (i := 919) rfl, 57, 918, 33, by decide +kernel⟩
set_option maxRecDepth 100000 in
theorem zmok_X6_findOrbit : zmok zm_X6_findOrbit := ⟨List.mem_of_getElem? (i := 915) rfl, 57, 914, 32, by decide +kernel⟩
set_option maxRecDepth 100000 in
theorem zmok_X6_isIn : zmok zm_X6_isIn := ⟨List.mem_of_getElem? (i := 952) rfl, 57, 951, 38, by decide +kernel⟩
set_option maxRecDepth 100000 in
theorem zmok_X6_placeAt : zmok zm_X6_placeAt := ⟨List.mem_of_getElem? (i := 903) rfl, 57, 902, 30, by decide +kernel⟩
set_option maxRecDepth 100000 in
theorem zmok_X6_isGrid : zmok zm_X6_isGrid := ⟨List.mem_of_getElem? (i := 893) rfl, 57, 892, 0, by decide +kernel⟩
set_option maxRecDepth 100000 in
theorem zmok_X6_isWeight : zmok zm_X6_isWeight := ⟨List.mem_of_getElem? (i := 898) rfl, 57, 897, 0, by decide +kernel⟩
set_option maxRecDepth 100000 in
theorem zmok_X6_against : zmok zm_X6_against := ⟨List.mem_of_getElem? (i := 890) rfl, 57, 889, 29, by decide +kernel⟩
set_option maxRecDepth 100000 in
theorem zmok_X6_lay : zmok zm_X6_lay := ⟨List.mem_of_getElem? (i := 907) rfl, 57, 906, 31, by decide +kernel⟩
set_option maxRecDepth 100000 in
theorem zmok_X6_place : zmok zm_X6_place := ⟨List.mem_of_getElem? (i := 886) rfl, 57, 884, 885, by decide +kernel⟩
set_option maxRecDepth 100000 in
theorem zmok_X6_orbit : zmok zm_X6_orbit := ⟨List.mem_of_getElem? (i := 911) rfl, 57, 909, 910, by decide +kernel⟩
set_option maxRecDepth 100000 in
theorem zmok_X6_places : zmok zm_X6_places := ⟨List.mem_of_getElem? (i := 923) rfl, 57, 921, 922, by decide +kernel⟩
set_option maxRecDepth 100000 in
theorem zmok_X6_drop : zmok zm_X6_drop := ⟨List.mem_of_getElem? (i := 932) rfl, 57, 930, 931, by decide +kernel⟩
set_option maxRecDepth 100000 in
theorem zmok_X6_orbitSize : zmok zm_X6_orbitSize := ⟨List.mem_of_getElem? (i := 944) rfl, 57, 943, 36, by decide +kernel⟩
set_option maxRecDepth 100000 in
theorem zmok_X6_isInside : zmok zm_X6_isInside := ⟨List.mem_of_getElem? (i := 948) rfl, 57, 947, 37, by decide +kernel⟩
set_option maxRecDepth 100000 in
theorem zmok_X6_about : zmok zm_X6_about := ⟨List.mem_of_getElem? (i := 940) rfl, 57, 938, 939, by decide +kernel⟩
set_option maxRecDepth 100000 in
theorem zmok_X6_isRight : zmok zm_X6_isRight := ⟨List.mem_of_getElem? (i := 960) rfl, 57, 959, 39, by decide +kernel⟩
set_option maxRecDepth 100000 in
theorem zmok_X6_degree : zmok zm_X6_degree := ⟨List.mem_of_getElem? (i := 956) rfl, 57, 954, 955, by decide +kernel⟩
set_option maxRecDepth 100000 in
theorem zmok_X6_first : zmok zm_X6_first := ⟨List.mem_of_getElem? (i := 964) rfl, 57, 962, 963, by decide +kernel⟩
set_option maxRecDepth 100000 in
theorem zmok_X6_isEven : zmok zm_X6_isEven := ⟨List.mem_of_getElem? (i := 972) rfl, 57, 971, 40, by decide +kernel⟩
set_option maxRecDepth 100000 in
theorem zmok_X6_is : zmok zm_X6_is := ⟨List.mem_of_getElem? (i := 968) rfl, 57, 966, 967, by decide +kernel⟩
set_option maxRecDepth 100000 in
theorem zmok_X6_least : zmok zm_X6_least := ⟨List.mem_of_getElem? (i := 976) rfl, 57, 974, 975, by decide +kernel⟩
set_option maxRecDepth 100000 in
theorem zmok_X6_keep : zmok zm_X6_keep := ⟨List.mem_of_getElem? (i := 981) rfl, 57, 979, 980, by decide +kernel⟩
set_option maxRecDepth 100000 in
theorem zmok_X6_load : zmok zm_X6_load := ⟨List.mem_of_getElem? (i := 986) rfl, 57, 984, 985, by decide +kernel⟩
set_option maxRecDepth 100000 in
theorem zmok_X6_farOf : zmok zm_X6_farOf := ⟨List.mem_of_getElem? (i := 1002) rfl, 57, 1001, 43, by decide +kernel⟩
set_option maxRecDepth 100000 in
theorem zmok_X6_findReps : zmok zm_X6_findReps := ⟨List.mem_of_getElem? (i := 998) rfl, 57, 997, 42, by decide +kernel⟩
set_option maxRecDepth 100000 in
theorem zmok_X6_haveWeights : zmok zm_X6_haveWeights := ⟨List.mem_of_getElem? (i := 1006) rfl, 57, 1005, 44, by decide +kernel⟩
set_option maxRecDepth 100000 in
theorem zmok_X6_layPair : zmok zm_X6_layPair := ⟨List.mem_of_getElem? (i := 1011) rfl, 57, 1010, 45, by decide +kernel⟩
set_option maxRecDepth 100000 in
theorem zmok_X6_putAside : zmok zm_X6_putAside := ⟨List.mem_of_getElem? (i := 994) rfl, 57, 993, 41, by decide +kernel⟩
set_option maxRecDepth 100000 in
theorem zmok_X6_takeBack : zmok zm_X6_takeBack := ⟨List.mem_of_getElem? (i := 1015) rfl, 57, 1014, 46, by decide +kernel⟩
set_option maxRecDepth 100000 in
theorem zmok_X6_pair : zmok zm_X6_pair := ⟨List.mem_of_getElem? (i := 990) rfl, 57, 988, 989, by decide +kernel⟩
set_option maxRecDepth 100000 in
theorem zmok_X6_term : zmok zm_X6_term := ⟨List.mem_of_getElem? (i := 1019) rfl, 57, 1017, 1018, by decide +kernel⟩
set_option maxRecDepth 100000 in
theorem zmok_X6_termOf : zmok zm_X6_termOf := ⟨List.mem_of_getElem? (i := 1029) rfl, 57, 1028, 0, by decide +kernel⟩
set_option maxRecDepth 100000 in
theorem zmok_X6_whole : zmok zm_X6_whole := ⟨List.mem_of_getElem? (i := 1026) rfl, 57, 1024, 1025, by decide +kernel⟩
set_option maxRecDepth 100000 in
theorem zmok_X6_valueAt : zmok zm_X6_valueAt := ⟨List.mem_of_getElem? (i := 1037) rfl, 57, 1036, 47, by decide +kernel⟩
set_option maxRecDepth 100000 in
theorem zmok_X6_byRule : zmok zm_X6_byRule := ⟨List.mem_of_getElem? (i := 1033) rfl, 57, 1031, 1032, by decide +kernel⟩
set_option maxRecDepth 100000 in
theorem zmok_X6_sheet : zmok zm_X6_sheet := ⟨List.mem_of_getElem? (i := 1041) rfl, 57, 1039, 1040, by decide +kernel⟩
set_option maxRecDepth 100000 in
theorem zmok_X6_lose : zmok zm_X6_lose := ⟨List.mem_of_getElem? (i := 1045) rfl, 57, 1043, 1044, by decide +kernel⟩
set_option maxRecDepth 100000 in
theorem zmok_X6_put : zmok zm_X6_put := ⟨List.mem_of_getElem? (i := 1049) rfl, 57, 1047, 1048, by decide +kernel⟩
set_option maxRecDepth 100000 in
theorem zmok_X6_at : zmok zm_X6_at := ⟨List.mem_of_getElem? (i := 1053) rfl, 57, 1051, 1052, by decide +kernel⟩
set_option maxRecDepth 100000 in
theorem zmok_X6_begins : zmok zm_X6_begins := ⟨List.mem_of_getElem? (i := 1065) rfl, 57, 1064, 49, by decide +kernel⟩
set_option maxRecDepth 100000 in
theorem zmok_X6_tell : zmok zm_X6_tell := ⟨List.mem_of_getElem? (i := 1061) rfl, 57, 1059, 1060, by decide +kernel⟩
set_option maxRecDepth 100000 in
theorem zmok_X6_count : zmok zm_X6_count := ⟨List.mem_of_getElem? (i := 1069) rfl, 57, 1067, 1068, by decide +kernel⟩
set_option maxRecDepth 100000 in
theorem zmok_X6_as : zmok zm_X6_as := ⟨List.mem_of_getElem? (i := 1073) rfl, 57, 1071, 1072, by decide +kernel⟩
set_option maxRecDepth 100000 in
theorem zmok_X6_trace : zmok zm_X6_trace := ⟨List.mem_of_getElem? (i := 1077) rfl, 57, 1075, 1076, by decide +kernel⟩
set_option maxRecDepth 100000 in
theorem zmok_X6_fault : zmok zm_X6_fault := ⟨List.mem_of_getElem? (i := 1081) rfl, 57, 1079, 1080, by decide +kernel⟩
set_option maxRecDepth 100000 in
theorem zmok_X6_told : zmok zm_X6_told := ⟨List.mem_of_getElem? (i := 1085) rfl, 57, 1083, 1084, by decide +kernel⟩
set_option maxRecDepth 100000 in
theorem zmok_J7_fill_d0a16 : zmok zm_J7_fill_d0a16 := ⟨List.mem_of_getElem? (i := 539) rfl, 60, 538, 0, by decide +kernel⟩
set_option maxRecDepth 100000 in
theorem zmok_J7_fill_53178 : zmok zm_J7_fill_53178 := ⟨List.mem_of_getElem? (i := 610) rfl, 60, 609, 0, by decide +kernel⟩
end
section
/-! ===== the code table, 0 ===== -/
def zl_X0_init_0 : List (Nat × zE) := [(0, .aload_n 0, 1, 0, 0, 0), (1, .invokespecial 3, 3, 900, 0, 143), (4, .aload_n 0, 1, 0, 0, 0), (5, .lconst 0, 1, 0, 0, 0), (6, .putfield 9, 3, 16, 0, 144), (9, .aload_n 0, 1, 0, 0, 0), (10, .lconst 1, 1, 0, 0, 0), (11, .putfield 15, 3, 16, 1, 147), (14, .return_, 1, 0, 0, 0)]
set_option maxRecDepth 100000 in
theorem zk_X0_init_0 : zl_X0_init_0.all (zgoodB zmt zm_X0_init) = true := by decide +kernel
def zp_X0_init : Nat → Option zE := (zlf zl_X0_init_0)
theorem za_X0_init : zall (zgood zmt zm_X0_init) zp_X0_init := (zall_lf zl_X0_init_0 zk_X0_init_0)
def zl_X0_become_0 : List (Nat × zE) := [(0, .lload_n 1, 1, 0, 0, 0), (1, .lload_n 3, 1, 0, 0, 0), (2, .invokestatic 18, 3, 71, 2, 635), (5, .lstore 5, 2, 0, 0, 0), (7, .lload 5, 2, 0, 0, 0), (9, .lconst 0, 1, 0, 0, 0), (10, .lcmp, 1, 0, 0, 0), (11, .ifCond .eq 9, 3, 20, 0, 0), (14, .lload_n 3, 1, 0, 0, 0), (15, .lconst 0, 1, 0, 0, 0)]
set_option maxRecDepth 100000 in
theorem zk_X0_become_0 : zl_X0_become_0.all (zgoodB zmt zm_X0_become) = true := by decide +kernel
def zl_X0_become_1 : List (Nat × zE) := [(16, .lcmp, 1, 0, 0, 0), (17, .ifCond .ne 14, 3, 31, 0, 0), (20, .aload_n 0, 1, 0, 0, 0), (21, .lconst 0, 1, 0, 0, 0), (22, .putfield 9, 3, 16, 0, 144), (25, .aload_n 0, 1, 0, 0, 0), (26, .lconst 1, 1, 0, 0, 0), (27, .putfield 15, 3, 16, 1, 147), (30, .return_, 1, 0, 0, 0), (31, .lload_n 3, 1, 0, 0, 0)]
set_option maxRecDepth 100000 in
theorem zk_X0_become_1 : zl_X0_become_1.all (zgoodB zmt zm_X0_become) = true := by decide +kernel
def zl_X0_become_2 : List (Nat × zE) := [(32, .lconst 0, 1, 0, 0, 0), (33, .lcmp, 1, 0, 0, 0), (34, .ifCond .ge 9, 3, 43, 0, 0), (37, .lload 5, 2, 0, 0, 0), (39, .lneg, 1, 0, 0, 0), (40, .goto 5, 3, 45, 0, 0), (43, .lload 5, 2, 0, 0, 0), (45, .lstore 7, 2, 0, 0, 0), (47, .aload_n 0, 1, 0, 0, 0), (48, .lload_n 1, 1, 0, 0, 0)]
set_option maxRecDepth 100000 in
theorem zk_X0_become_2 : zl_X0_become_2.all (zgoodB zmt zm_X0_become) = true := by decide +kernel
def zl_X0_become_3 : List (Nat × zE) := [(49, .lload 7, 2, 0, 0, 0), (51, .ldiv, 1, 0, 0, 0), (52, .putfield 9, 3, 16, 0, 144), (55, .aload_n 0, 1, 0, 0, 0), (56, .lload_n 3, 1, 0, 0, 0), (57, .lload 7, 2, 0, 0, 0), (59, .ldiv, 1, 0, 0, 0), (60, .putfield 15, 3, 16, 1, 147), (63, .return_, 1, 0, 0, 0)]
set_option maxRecDepth 100000 in
theorem zk_X0_become_3 : zl_X0_become_3.all (zgoodB zmt zm_X0_become) = true := by decide +kernel
def zp_X0_become : Nat → Option zE := (ztr 32 (ztr 16 (zlf zl_X0_become_0) (zlf zl_X0_become_1)) (ztr 49 (zlf zl_X0_become_2) (zlf zl_X0_become_3)))
theorem za_X0_become : zall (zgood zmt zm_X0_become) zp_X0_become := (zall_tr (zall_tr (zall_lf zl_X0_become_0 zk_X0_become_0) (zall_lf zl_X0_become_1 zk_X0_become_1)) (zall_tr (zall_lf zl_X0_become_2 zk_X0_become_2) (zall_lf zl_X0_become_3 zk_X0_become_3)))
def zl_X0_addTimes_0 : List (Nat × zE) := [(0, .aload_n 0, 1, 0, 0, 0), (1, .aload_n 0, 1, 0, 0, 0), (2, .getfield 9, 3, 0, 0, 144), (5, .aload_n 3, 1, 0, 0, 0), (6, .getfield 15, 3, 0, 1, 147), (9, .lmul, 1, 0, 0, 0), (10, .lload_n 1, 1, 0, 0, 0), (11, .aload_n 3, 1, 0, 0, 0), (12, .getfield 9, 3, 0, 0, 144), (15, .lmul, 1, 0, 0, 0)]
set_option maxRecDepth 100000 in
theorem zk_X0_addTimes_0 : zl_X0_addTimes_0.all (zgoodB zmt zm_X0_addTimes) = true := by decide +kernel
def zl_X0_addTimes_1 : List (Nat × zE) := [(16, .aload_n 0, 1, 0, 0, 0), (17, .getfield 15, 3, 0, 1, 147), (20, .lmul, 1, 0, 0, 0), (21, .ladd, 1, 0, 0, 0), (22, .aload_n 0, 1, 0, 0, 0), (23, .getfield 15, 3, 0, 1, 147), (26, .aload_n 3, 1, 0, 0, 0), (27, .getfield 15, 3, 0, 1, 147), (30, .lmul, 1, 0, 0, 0), (31, .invokevirtual 22, 3, 1, 3, 626)]
set_option maxRecDepth 100000 in
theorem zk_X0_addTimes_1 : zl_X0_addTimes_1.all (zgoodB zmt zm_X0_addTimes) = true := by decide +kernel
def zl_X0_addTimes_2 : List (Nat × zE) := [(34, .return_, 1, 0, 0, 0)]
set_option maxRecDepth 100000 in
theorem zk_X0_addTimes_2 : zl_X0_addTimes_2.all (zgoodB zmt zm_X0_addTimes) = true := by decide +kernel
def zp_X0_addTimes : Nat → Option zE := (ztr 16 (zlf zl_X0_addTimes_0) (ztr 34 (zlf zl_X0_addTimes_1) (zlf zl_X0_addTimes_2)))
theorem za_X0_addTimes : zall (zgood zmt zm_X0_addTimes) zp_X0_addTimes := (zall_tr (zall_lf zl_X0_addTimes_0 zk_X0_addTimes_0) (zall_tr (zall_lf zl_X0_addTimes_1 zk_X0_addTimes_1) (zall_lf zl_X0_addTimes_2 zk_X0_addTimes_2)))
def zl_X0_becomeMoment_0 : List (Nat × zE) := [(0, .iload_n 2, 1, 0, 0, 0), (1, .iconst 2, 1, 0, 0, 0), (2, .irem, 1, 0, 0, 0), (3, .ifCond .ne 9, 3, 12, 0, 0), (6, .iload_n 3, 1, 0, 0, 0), (7, .iconst 2, 1, 0, 0, 0), (8, .irem, 1, 0, 0, 0), (9, .ifCond .eq 12, 3, 21, 0, 0), (12, .iload_n 1, 1, 0, 0, 0), (13, .iconst 1, 1, 0, 0, 0)]
set_option maxRecDepth 100000 in
theorem zk_X0_becomeMoment_0 : zl_X0_becomeMoment_0.all (zgoodB zmt zm_X0_becomeMoment) = true := by decide +kernel
def zl_X0_becomeMoment_1 : List (Nat × zE) := [(14, .if_icmp .eq 7, 3, 21, 0, 0), (17, .iconst 1, 1, 0, 0, 0), (18, .goto 4, 3, 22, 0, 0), (21, .iconst 0, 1, 0, 0, 0), (22, .istore 4, 2, 0, 0, 0), (24, .iload 4, 2, 0, 0, 0), (26, .ifCond .ne 11, 3, 37, 0, 0), (29, .iload_n 2, 1, 0, 0, 0), (30, .iload_n 3, 1, 0, 0, 0), (31, .invokestatic 26, 3, 68, 2, 625)]
set_option maxRecDepth 100000 in
theorem zk_X0_becomeMoment_1 : zl_X0_becomeMoment_1.all (zgoodB zmt zm_X0_becomeMoment) = true := by decide +kernel
def zl_X0_becomeMoment_2 : List (Nat × zE) := [(34, .ifCond .ne 12, 3, 46, 0, 0), (37, .aload_n 0, 1, 0, 0, 0), (38, .lconst 0, 1, 0, 0, 0), (39, .lconst 1, 1, 0, 0, 0), (40, .invokevirtual 22, 3, 1, 3, 626), (43, .goto 66, 3, 109, 0, 0), (46, .iload_n 1, 1, 0, 0, 0), (47, .ifCond .ne 21, 3, 68, 0, 0), (50, .aload_n 0, 1, 0, 0, 0), (51, .ldc2_w 30, 3, 4, 0, 323)]
set_option maxRecDepth 100000 in
theorem zk_X0_becomeMoment_2 : zl_X0_becomeMoment_2.all (zgoodB zmt zm_X0_becomeMoment) = true := by decide +kernel
def zl_X0_becomeMoment_3 : List (Nat × zE) := [(54, .iload_n 2, 1, 0, 0, 0), (55, .iconst 1, 1, 0, 0, 0), (56, .iadd, 1, 0, 0, 0), (57, .iload_n 3, 1, 0, 0, 0), (58, .iconst 1, 1, 0, 0, 0), (59, .iadd, 1, 0, 0, 0), (60, .imul, 1, 0, 0, 0), (61, .i2l, 1, 0, 0, 0), (62, .invokevirtual 22, 3, 1, 3, 626), (65, .goto 44, 3, 109, 0, 0)]
set_option maxRecDepth 100000 in
theorem zk_X0_becomeMoment_3 : zl_X0_becomeMoment_3.all (zgoodB zmt zm_X0_becomeMoment) = true := by decide +kernel
def zl_X0_becomeMoment_4 : List (Nat × zE) := [(68, .iload_n 1, 1, 0, 0, 0), (69, .iconst 2, 1, 0, 0, 0), (70, .if_icmp .ne 7, 3, 77, 0, 0), (73, .iconst 4, 1, 0, 0, 0), (74, .goto 4, 3, 78, 0, 0), (77, .iconst 1, 1, 0, 0, 0), (78, .istore 5, 2, 0, 0, 0), (80, .aload_n 0, 1, 0, 0, 0), (81, .iload 5, 2, 0, 0, 0), (83, .getstatic 32, 3, 2, 1, 324)]
set_option maxRecDepth 100000 in
theorem zk_X0_becomeMoment_4 : zl_X0_becomeMoment_4.all (zgoodB zmt zm_X0_becomeMoment) = true := by decide +kernel
def zl_X0_becomeMoment_5 : List (Nat × zE) := [(86, .iload_n 2, 1, 0, 0, 0), (87, .iaload, 1, 0, 0, 0), (88, .imul, 1, 0, 0, 0), (89, .getstatic 32, 3, 2, 1, 324), (92, .iload_n 3, 1, 0, 0, 0), (93, .iaload, 1, 0, 0, 0), (94, .imul, 1, 0, 0, 0), (95, .i2l, 1, 0, 0, 0), (96, .getstatic 32, 3, 2, 1, 324), (99, .iload_n 2, 1, 0, 0, 0)]
set_option maxRecDepth 100000 in
theorem zk_X0_becomeMoment_5 : zl_X0_becomeMoment_5.all (zgoodB zmt zm_X0_becomeMoment) = true := by decide +kernel
def zl_X0_becomeMoment_6 : List (Nat × zE) := [(100, .iload_n 3, 1, 0, 0, 0), (101, .iadd, 1, 0, 0, 0), (102, .iconst 2, 1, 0, 0, 0), (103, .iadd, 1, 0, 0, 0), (104, .iaload, 1, 0, 0, 0), (105, .i2l, 1, 0, 0, 0), (106, .invokevirtual 22, 3, 1, 3, 626), (109, .return_, 1, 0, 0, 0)]
set_option maxRecDepth 100000 in
theorem zk_X0_becomeMoment_6 : zl_X0_becomeMoment_6.all (zgoodB zmt zm_X0_becomeMoment) = true := by decide +kernel
def zp_X0_becomeMoment : Nat → Option zE := (ztr 54 (ztr 14 (zlf zl_X0_becomeMoment_0) (ztr 34 (zlf zl_X0_becomeMoment_1) (zlf zl_X0_becomeMoment_2))) (ztr 86 (ztr 68 (zlf zl_X0_becomeMoment_3) (zlf zl_X0_becomeMoment_4)) (ztr 100 (zlf zl_X0_becomeMoment_5) (zlf zl_X0_becomeMoment_6))))
theorem za_X0_becomeMoment : zall (zgood zmt zm_X0_becomeMoment) zp_X0_becomeMoment := (zall_tr (zall_tr (zall_lf zl_X0_becomeMoment_0 zk_X0_becomeMoment_0) (zall_tr (zall_lf zl_X0_becomeMoment_1 zk_X0_becomeMoment_1) (zall_lf zl_X0_becomeMoment_2 zk_X0_becomeMoment_2))) (zall_tr (zall_tr (zall_lf zl_X0_becomeMoment_3 zk_X0_becomeMoment_3) (zall_lf zl_X0_becomeMoment_4 zk_X0_becomeMoment_4)) (zall_tr (zall_lf zl_X0_becomeMoment_5 zk_X0_becomeMoment_5) (zall_lf zl_X0_becomeMoment_6 zk_X0_becomeMoment_6))))
def zl_X0_showing_0 : List (Nat × zE) := [(0, .iload_n 1, 1, 0, 0, 0), (1, .ifCond .ne 10, 3, 11, 0, 0), (4, .aload_n 0, 1, 0, 0, 0), (5, .getfield 9, 3, 0, 0, 144), (8, .goto 7, 3, 15, 0, 0), (11, .aload_n 0, 1, 0, 0, 0), (12, .getfield 15, 3, 0, 1, 147), (15, .lreturn, 1, 0, 0, 0)]
set_option maxRecDepth 100000 in
theorem zk_X0_showing_0 : zl_X0_showing_0.all (zgoodB zmt zm_X0_showing) = true := by decide +kernel
def zp_X0_showing : Nat → Option zE := (zlf zl_X0_showing_0)
theorem za_X0_showing : zall (zgood zmt zm_X0_showing) zp_X0_showing := (zall_lf zl_X0_showing_0 zk_X0_showing_0)
def zl_X1_init_0 : List (Nat × zE) := [(0, .aload_n 0, 1, 0, 0, 0), (1, .invokespecial 3, 3, 900, 0, 135), (4, .aload_n 0, 1, 0, 0, 0), (5, .iconst 0, 1, 0, 0, 0), (6, .putfield 9, 3, 1, 0, 155), (9, .aload_n 0, 1, 0, 0, 0), (10, .iconst 1, 1, 0, 0, 0), (11, .putfield 15, 3, 1, 1, 156), (14, .aload_n 0, 1, 0, 0, 0), (15, .iconst 0, 1, 0, 0, 0)]
set_option maxRecDepth 100000 in
theorem zk_X1_init_0 : zl_X1_init_0.all (zgoodB zmt zm_X1_init) = true := by decide +kernel
def zl_X1_init_1 : List (Nat × zE) := [(16, .putfield 18, 3, 1, 2, 158), (19, .aload_n 0, 1, 0, 0, 0), (20, .bipush 28, 2, 0, 0, 0), (22, .newarray .int, 2, 0, 0, 0), (24, .putfield 21, 3, 33, 3, 159), (27, .aload_n 0, 1, 0, 0, 0), (28, .bipush 28, 2, 0, 0, 0), (30, .newarray .int, 2, 0, 0, 0), (32, .putfield 25, 3, 33, 4, 161), (35, .aload_n 0, 1, 0, 0, 0)]
set_option maxRecDepth 100000 in
theorem zk_X1_init_1 : zl_X1_init_1.all (zgoodB zmt zm_X1_init) = true := by decide +kernel
def zl_X1_init_2 : List (Nat × zE) := [(36, .bipush 28, 2, 0, 0, 0), (38, .newarray .int, 2, 0, 0, 0), (40, .putfield 28, 3, 33, 5, 163), (43, .aload_n 0, 1, 0, 0, 0), (44, .bipush 28, 2, 0, 0, 0), (46, .newarray .int, 2, 0, 0, 0), (48, .putfield 31, 3, 33, 6, 164), (51, .aload_n 0, 1, 0, 0, 0), (52, .bipush 28, 2, 0, 0, 0), (54, .bipush 21, 2, 0, 0, 0)]
set_option maxRecDepth 100000 in
theorem zk_X1_init_2 : zl_X1_init_2.all (zgoodB zmt zm_X1_init) = true := by decide +kernel
def zl_X1_init_3 : List (Nat × zE) := [(56, .multianewarray 34 2, 4, 0, 0, 136), (60, .putfield 36, 3, 33, 7, 165), (63, .aload_n 0, 1, 0, 0, 0), (64, .bipush 21, 2, 0, 0, 0), (66, .newarray .long, 2, 0, 0, 0), (68, .putfield 39, 3, 33, 8, 166), (71, .aload_n 0, 1, 0, 0, 0), (72, .bipush 21, 2, 0, 0, 0), (74, .newarray .long, 2, 0, 0, 0), (76, .putfield 43, 3, 33, 9, 167)]
set_option maxRecDepth 100000 in
theorem zk_X1_init_3 : zl_X1_init_3.all (zgoodB zmt zm_X1_init) = true := by decide +kernel
def zl_X1_init_4 : List (Nat × zE) := [(79, .aload_n 0, 1, 0, 0, 0), (80, .bipush 6, 2, 0, 0, 0), (82, .newarray .long, 2, 0, 0, 0), (84, .putfield 46, 3, 33, 10, 168), (87, .aload_n 0, 1, 0, 0, 0), (88, .bipush 6, 2, 0, 0, 0), (90, .newarray .long, 2, 0, 0, 0), (92, .putfield 49, 3, 33, 11, 169), (95, .aload_n 0, 1, 0, 0, 0), (96, .new 52, 3, 0, 0, 138)]
set_option maxRecDepth 100000 in
theorem zk_X1_init_4 : zl_X1_init_4.all (zgoodB zmt zm_X1_init) = true := by decide +kernel
def zl_X1_init_5 : List (Nat × zE) := [(99, .dup, 1, 0, 0, 0), (100, .invokespecial 54, 3, 0, 1, 281), (103, .putfield 55, 3, 33, 12, 170), (106, .aload_n 0, 1, 0, 0, 0), (107, .new 52, 3, 0, 0, 138), (110, .dup, 1, 0, 0, 0), (111, .invokespecial 54, 3, 0, 1, 281), (114, .putfield 59, 3, 33, 13, 171), (117, .aload_n 0, 1, 0, 0, 0), (118, .lconst 0, 1, 0, 0, 0)]
set_option maxRecDepth 100000 in
theorem zk_X1_init_5 : zl_X1_init_5.all (zgoodB zmt zm_X1_init) = true := by decide +kernel
def zl_X1_init_6 : List (Nat × zE) := [(119, .putfield 62, 3, 17, 14, 172), (122, .aload_n 0, 1, 0, 0, 0), (123, .lconst 0, 1, 0, 0, 0), (124, .putfield 66, 3, 17, 15, 174), (127, .aload_n 0, 1, 0, 0, 0), (128, .lconst 1, 1, 0, 0, 0), (129, .putfield 69, 3, 17, 16, 176), (132, .aload_n 0, 1, 0, 0, 0), (133, .bipush (-9), 2, 0, 0, 0), (135, .putfield 72, 3, 1, 17, 178)]
set_option maxRecDepth 100000 in
theorem zk_X1_init_6 : zl_X1_init_6.all (zgoodB zmt zm_X1_init) = true := by decide +kernel
def zl_X1_init_7 : List (Nat × zE) := [(138, .aload_n 0, 1, 0, 0, 0), (139, .bipush (-9), 2, 0, 0, 0), (141, .putfield 75, 3, 1, 18, 180), (144, .return_, 1, 0, 0, 0)]
set_option maxRecDepth 100000 in
theorem zk_X1_init_7 : zl_X1_init_7.all (zgoodB zmt zm_X1_init) = true := by decide +kernel
def zp_X1_init : Nat → Option zE := (ztr 79 (ztr 36 (ztr 16 (zlf zl_X1_init_0) (zlf zl_X1_init_1)) (ztr 56 (zlf zl_X1_init_2) (zlf zl_X1_init_3))) (ztr 119 (ztr 99 (zlf zl_X1_init_4) (zlf zl_X1_init_5)) (ztr 138 (zlf zl_X1_init_6) (zlf zl_X1_init_7))))
theorem za_X1_init : zall (zgood zmt zm_X1_init) zp_X1_init := (zall_tr (zall_tr (zall_tr (zall_lf zl_X1_init_0 zk_X1_init_0) (zall_lf zl_X1_init_1 zk_X1_init_1)) (zall_tr (zall_lf zl_X1_init_2 zk_X1_init_2) (zall_lf zl_X1_init_3 zk_X1_init_3))) (zall_tr (zall_tr (zall_lf zl_X1_init_4 zk_X1_init_4) (zall_lf zl_X1_init_5 zk_X1_init_5)) (zall_tr (zall_lf zl_X1_init_6 zk_X1_init_6) (zall_lf zl_X1_init_7 zk_X1_init_7))))
def zl_X1_gather_0 : List (Nat × zE) := [(0, .aload_n 0, 1, 0, 0, 0), (1, .iload_n 1, 1, 0, 0, 0), (2, .putfield 9, 3, 1, 0, 155), (5, .aload_n 0, 1, 0, 0, 0), (6, .iload_n 2, 1, 0, 0, 0), (7, .putfield 15, 3, 1, 1, 156), (10, .aload_n 0, 1, 0, 0, 0), (11, .iconst 0, 1, 0, 0, 0), (12, .putfield 18, 3, 1, 2, 158), (15, .aload_n 0, 1, 0, 0, 0)]
set_option maxRecDepth 100000 in
theorem zk_X1_gather_0 : zl_X1_gather_0.all (zgoodB zmt zm_X1_gather) = true := by decide +kernel
def zl_X1_gather_1 : List (Nat × zE) := [(16, .getfield 15, 3, 1, 1, 156), (19, .ineg, 1, 0, 0, 0), (20, .istore 4, 2, 0, 0, 0), (22, .iload 4, 2, 0, 0, 0), (24, .aload_n 0, 1, 0, 0, 0), (25, .getfield 15, 3, 1, 1, 156), (28, .if_icmp .gt 91, 3, 119, 0, 0), (31, .iload 4, 2, 0, 0, 0), (33, .istore 5, 2, 0, 0, 0), (35, .iload 5, 2, 0, 0, 0)]
set_option maxRecDepth 100000 in
theorem zk_X1_gather_1 : zl_X1_gather_1.all (zgoodB zmt zm_X1_gather) = true := by decide +kernel
def zl_X1_gather_2 : List (Nat × zE) := [(37, .aload_n 0, 1, 0, 0, 0), (38, .getfield 15, 3, 1, 1, 156), (41, .if_icmp .gt 72, 3, 113, 0, 0), (44, .aload_n 0, 1, 0, 0, 0), (45, .getfield 18, 3, 1, 2, 158), (48, .bipush 28, 2, 0, 0, 0), (50, .if_icmp .ge 57, 3, 107, 0, 0), (53, .aload_n 0, 1, 0, 0, 0), (54, .iload 4, 2, 0, 0, 0), (56, .iload 5, 2, 0, 0, 0)]
set_option maxRecDepth 100000 in
theorem zk_X1_gather_2 : zl_X1_gather_2.all (zgoodB zmt zm_X1_gather) = true := by decide +kernel
def zl_X1_gather_3 : List (Nat × zE) := [(58, .invokevirtual 78, 3, 7, 3, 1054), (61, .ifCond .eq 46, 3, 107, 0, 0), (64, .aload_n 0, 1, 0, 0, 0), (65, .getfield 9, 3, 1, 0, 155), (68, .aload_n 0, 1, 0, 0, 0), (69, .getfield 15, 3, 1, 1, 156), (72, .iload 4, 2, 0, 0, 0), (74, .iload 5, 2, 0, 0, 0), (76, .invokestatic 82, 3, 72, 4, 1063), (79, .ifCond .eq 28, 3, 107, 0, 0)]
set_option maxRecDepth 100000 in
theorem zk_X1_gather_3 : zl_X1_gather_3.all (zgoodB zmt zm_X1_gather) = true := by decide +kernel
def zl_X1_gather_4 : List (Nat × zE) := [(82, .aload_n 3, 1, 0, 0, 0), (83, .aload_n 0, 1, 0, 0, 0), (84, .getfield 9, 3, 1, 0, 155), (87, .aload_n 0, 1, 0, 0, 0), (88, .getfield 15, 3, 1, 1, 156), (91, .iload 4, 2, 0, 0, 0), (93, .iload 5, 2, 0, 0, 0), (95, .invokevirtual 86, 3, 15, 5, 1064), (98, .aload_n 0, 1, 0, 0, 0), (99, .iload 4, 2, 0, 0, 0)]
set_option maxRecDepth 100000 in
theorem zk_X1_gather_4 : zl_X1_gather_4.all (zgoodB zmt zm_X1_gather) = true := by decide +kernel
def zl_X1_gather_5 : List (Nat × zE) := [(101, .iload 5, 2, 0, 0, 0), (103, .aload_n 3, 1, 0, 0, 0), (104, .invokevirtual 92, 3, 8, 4, 1066), (107, .iinc 5 1, 3, 0, 0, 0), (110, .goto (-75), 3, 35, 0, 0), (113, .iinc 4 1, 3, 0, 0, 0), (116, .goto (-94), 3, 22, 0, 0), (119, .iconst 0, 1, 0, 0, 0), (120, .istore 4, 2, 0, 0, 0), (122, .iload 4, 2, 0, 0, 0)]
set_option maxRecDepth 100000 in
theorem zk_X1_gather_5 : zl_X1_gather_5.all (zgoodB zmt zm_X1_gather) = true := by decide +kernel
def zl_X1_gather_6 : List (Nat × zE) := [(124, .bipush 21, 2, 0, 0, 0), (126, .if_icmp .ge 82, 3, 208, 0, 0), (129, .aload_n 0, 1, 0, 0, 0), (130, .getfield 55, 3, 1, 12, 170), (133, .aload_n 0, 1, 0, 0, 0), (134, .getfield 9, 3, 1, 0, 155), (137, .getstatic 96, 3, 0, 1, 547), (140, .iload 4, 2, 0, 0, 0), (142, .iaload, 1, 0, 0, 0), (143, .getstatic 99, 3, 1, 1, 548)]
set_option maxRecDepth 100000 in
theorem zk_X1_gather_6 : zl_X1_gather_6.all (zgoodB zmt zm_X1_gather) = true := by decide +kernel
def zl_X1_gather_7 : List (Nat × zE) := [(146, .iload 4, 2, 0, 0, 0), (148, .iaload, 1, 0, 0, 0), (149, .invokevirtual 102, 3, 3, 4, 1098), (152, .aload_n 0, 1, 0, 0, 0), (153, .getfield 39, 3, 1, 8, 166), (156, .iload 4, 2, 0, 0, 0), (158, .aload_n 0, 1, 0, 0, 0), (159, .getfield 55, 3, 1, 12, 170), (162, .getfield 106, 3, 0, 0, 145), (165, .aload_n 0, 1, 0, 0, 0)]
set_option maxRecDepth 100000 in
theorem zk_X1_gather_7 : zl_X1_gather_7.all (zgoodB zmt zm_X1_gather) = true := by decide +kernel
def zl_X1_gather_8 : List (Nat × zE) := [(166, .getfield 15, 3, 1, 1, 156), (169, .i2l, 1, 0, 0, 0), (170, .getstatic 96, 3, 0, 1, 547), (173, .iload 4, 2, 0, 0, 0), (175, .iaload, 1, 0, 0, 0), (176, .getstatic 99, 3, 1, 1, 548), (179, .iload 4, 2, 0, 0, 0), (181, .iaload, 1, 0, 0, 0), (182, .iadd, 1, 0, 0, 0), (183, .invokestatic 109, 3, 69, 2, 1101)]
set_option maxRecDepth 100000 in
theorem zk_X1_gather_8 : zl_X1_gather_8.all (zgoodB zmt zm_X1_gather) = true := by decide +kernel
def zl_X1_gather_9 : List (Nat × zE) := [(186, .lmul, 1, 0, 0, 0), (187, .lastore, 1, 0, 0, 0), (188, .aload_n 0, 1, 0, 0, 0), (189, .getfield 43, 3, 1, 9, 167), (192, .iload 4, 2, 0, 0, 0), (194, .aload_n 0, 1, 0, 0, 0), (195, .getfield 55, 3, 1, 12, 170), (198, .getfield 113, 3, 0, 1, 148), (201, .lastore, 1, 0, 0, 0), (202, .iinc 4 1, 3, 0, 0, 0)]
set_option maxRecDepth 100000 in
theorem zk_X1_gather_9 : zl_X1_gather_9.all (zgoodB zmt zm_X1_gather) = true := by decide +kernel
def zl_X1_gather_10 : List (Nat × zE) := [(205, .goto (-83), 3, 122, 0, 0), (208, .return_, 1, 0, 0, 0)]
set_option maxRecDepth 100000 in
theorem zk_X1_gather_10 : zl_X1_gather_10.all (zgoodB zmt zm_X1_gather) = true := by decide +kernel
def zp_X1_gather : Nat → Option zE := (ztr 101 (ztr 37 (ztr 16 (zlf zl_X1_gather_0) (zlf zl_X1_gather_1)) (ztr 58 (zlf zl_X1_gather_2) (ztr 82 (zlf zl_X1_gather_3) (zlf zl_X1_gather_4)))) (ztr 166 (ztr 124 (zlf zl_X1_gather_5) (ztr 146 (zlf zl_X1_gather_6) (zlf zl_X1_gather_7))) (ztr 186 (zlf zl_X1_gather_8) (ztr 205 (zlf zl_X1_gather_9) (zlf zl_X1_gather_10)))))
theorem za_X1_gather : zall (zgood zmt zm_X1_gather) zp_X1_gather := (zall_tr (zall_tr (zall_tr (zall_lf zl_X1_gather_0 zk_X1_gather_0) (zall_lf zl_X1_gather_1 zk_X1_gather_1)) (zall_tr (zall_lf zl_X1_gather_2 zk_X1_gather_2) (zall_tr (zall_lf zl_X1_gather_3 zk_X1_gather_3) (zall_lf zl_X1_gather_4 zk_X1_gather_4)))) (zall_tr (zall_tr (zall_lf zl_X1_gather_5 zk_X1_gather_5) (zall_tr (zall_lf zl_X1_gather_6 zk_X1_gather_6) (zall_lf zl_X1_gather_7 zk_X1_gather_7))) (zall_tr (zall_lf zl_X1_gather_8 zk_X1_gather_8) (zall_tr (zall_lf zl_X1_gather_9 zk_X1_gather_9) (zall_lf zl_X1_gather_10 zk_X1_gather_10)))))
def zl_X1_isLeastOfOrbit_0 : List (Nat × zE) := [(0, .aload_n 0, 1, 0, 0, 0), (1, .getfield 9, 3, 1, 0, 155), (4, .iconst 1, 1, 0, 0, 0), (5, .if_icmp .ne 14, 3, 19, 0, 0), (8, .aload_n 0, 1, 0, 0, 0), (9, .getfield 15, 3, 1, 1, 156), (12, .iload_n 1, 1, 0, 0, 0), (13, .isub, 1, 0, 0, 0), (14, .iload_n 2, 1, 0, 0, 0), (15, .isub, 1, 0, 0, 0)]
set_option maxRecDepth 100000 in
theorem zk_X1_isLeastOfOrbit_0 : zl_X1_isLeastOfOrbit_0.all (zgoodB zmt zm_X1_isLeastOfOrbit) = true := by decide +kernel
def zl_X1_isLeastOfOrbit_1 : List (Nat × zE) := [(16, .goto 4, 3, 20, 0, 0), (19, .iconst 0, 1, 0, 0, 0), (20, .istore_n 3, 1, 0, 0, 0), (21, .iload_n 1, 1, 0, 0, 0), (22, .iload_n 2, 1, 0, 0, 0), (23, .if_icmp .gt 12, 3, 35, 0, 0), (26, .iload_n 2, 1, 0, 0, 0), (27, .iload_n 3, 1, 0, 0, 0), (28, .if_icmp .gt 7, 3, 35, 0, 0), (31, .iconst 1, 1, 0, 0, 0)]
set_option maxRecDepth 100000 in
theorem zk_X1_isLeastOfOrbit_1 : zl_X1_isLeastOfOrbit_1.all (zgoodB zmt zm_X1_isLeastOfOrbit) = true := by decide +kernel
def zl_X1_isLeastOfOrbit_2 : List (Nat × zE) := [(32, .goto 4, 3, 36, 0, 0), (35, .iconst 0, 1, 0, 0, 0), (36, .ireturn, 1, 0, 0, 0)]
set_option maxRecDepth 100000 in
theorem zk_X1_isLeastOfOrbit_2 : zl_X1_isLeastOfOrbit_2.all (zgoodB zmt zm_X1_isLeastOfOrbit) = true := by decide +kernel
def zp_X1_isLeastOfOrbit : Nat → Option zE := (ztr 16 (zlf zl_X1_isLeastOfOrbit_0) (ztr 32 (zlf zl_X1_isLeastOfOrbit_1) (zlf zl_X1_isLeastOfOrbit_2)))
theorem za_X1_isLeastOfOrbit : zall (zgood zmt zm_X1_isLeastOfOrbit) zp_X1_isLeastOfOrbit := (zall_tr (zall_lf zl_X1_isLeastOfOrbit_0 zk_X1_isLeastOfOrbit_0) (zall_tr (zall_lf zl_X1_isLeastOfOrbit_1 zk_X1_isLeastOfOrbit_1) (zall_lf zl_X1_isLeastOfOrbit_2 zk_X1_isLeastOfOrbit_2)))
def zl_X1_append_0 : List (Nat × zE) := [(0, .aload_n 0, 1, 0, 0, 0), (1, .getfield 9, 3, 1, 0, 155), (4, .iconst 1, 1, 0, 0, 0), (5, .if_icmp .ne 14, 3, 19, 0, 0), (8, .aload_n 0, 1, 0, 0, 0), (9, .getfield 15, 3, 1, 1, 156), (12, .iload_n 1, 1, 0, 0, 0), (13, .isub, 1, 0, 0, 0), (14, .iload_n 2, 1, 0, 0, 0), (15, .isub, 1, 0, 0, 0)]
set_option maxRecDepth 100000 in
theorem zk_X1_append_0 : zl_X1_append_0.all (zgoodB zmt zm_X1_append) = true := by decide +kernel
def zl_X1_append_1 : List (Nat × zE) := [(16, .goto 4, 3, 20, 0, 0), (19, .iconst 0, 1, 0, 0, 0), (20, .istore 4, 2, 0, 0, 0), (22, .aload_n 0, 1, 0, 0, 0), (23, .getfield 21, 3, 1, 3, 159), (26, .aload_n 0, 1, 0, 0, 0), (27, .getfield 18, 3, 1, 2, 158), (30, .iload_n 1, 1, 0, 0, 0), (31, .iastore, 1, 0, 0, 0), (32, .aload_n 0, 1, 0, 0, 0)]
set_option maxRecDepth 100000 in
theorem zk_X1_append_1 : zl_X1_append_1.all (zgoodB zmt zm_X1_append) = true := by decide +kernel
def zl_X1_append_2 : List (Nat × zE) := [(33, .getfield 25, 3, 1, 4, 161), (36, .aload_n 0, 1, 0, 0, 0), (37, .getfield 18, 3, 1, 2, 158), (40, .iload_n 2, 1, 0, 0, 0), (41, .iastore, 1, 0, 0, 0), (42, .aload_n 0, 1, 0, 0, 0), (43, .getfield 28, 3, 1, 5, 163), (46, .aload_n 0, 1, 0, 0, 0), (47, .getfield 18, 3, 1, 2, 158), (50, .aload_n 3, 1, 0, 0, 0)]
set_option maxRecDepth 100000 in
theorem zk_X1_append_2 : zl_X1_append_2.all (zgoodB zmt zm_X1_append) = true := by decide +kernel
def zl_X1_append_3 : List (Nat × zE) := [(51, .getfield 114, 3, 2, 2, 120), (54, .iastore, 1, 0, 0, 0), (55, .aload_n 0, 1, 0, 0, 0), (56, .getfield 31, 3, 1, 6, 164), (59, .aload_n 0, 1, 0, 0, 0), (60, .getfield 18, 3, 1, 2, 158), (63, .iload_n 1, 1, 0, 0, 0), (64, .iload_n 1, 1, 0, 0, 0), (65, .imul, 1, 0, 0, 0), (66, .iload_n 2, 1, 0, 0, 0)]
set_option maxRecDepth 100000 in
theorem zk_X1_append_3 : zl_X1_append_3.all (zgoodB zmt zm_X1_append) = true := by decide +kernel
def zl_X1_append_4 : List (Nat × zE) := [(67, .iload_n 2, 1, 0, 0, 0), (68, .imul, 1, 0, 0, 0), (69, .iadd, 1, 0, 0, 0), (70, .iload 4, 2, 0, 0, 0), (72, .iload 4, 2, 0, 0, 0), (74, .imul, 1, 0, 0, 0), (75, .iadd, 1, 0, 0, 0), (76, .iastore, 1, 0, 0, 0), (77, .aload_n 0, 1, 0, 0, 0), (78, .getfield 36, 3, 1, 7, 165)]
set_option maxRecDepth 100000 in
theorem zk_X1_append_4 : zl_X1_append_4.all (zgoodB zmt zm_X1_append) = true := by decide +kernel
def zl_X1_append_5 : List (Nat × zE) := [(81, .aload_n 0, 1, 0, 0, 0), (82, .getfield 18, 3, 1, 2, 158), (85, .aaload, 1, 0, 0, 0), (86, .lconst 0, 1, 0, 0, 0), (87, .invokestatic 115, 3, 164, 2, 1074), (90, .iconst 0, 1, 0, 0, 0), (91, .istore 5, 2, 0, 0, 0), (93, .iload 5, 2, 0, 0, 0), (95, .aload_n 3, 1, 0, 0, 0), (96, .getfield 114, 3, 2, 2, 120)]
set_option maxRecDepth 100000 in
theorem zk_X1_append_5 : zl_X1_append_5.all (zgoodB zmt zm_X1_append) = true := by decide +kernel
def zl_X1_append_6 : List (Nat × zE) := [(99, .if_icmp .ge 36, 3, 135, 0, 0), (102, .aload_n 0, 1, 0, 0, 0), (103, .aload_n 0, 1, 0, 0, 0), (104, .getfield 36, 3, 1, 7, 165), (107, .aload_n 0, 1, 0, 0, 0), (108, .getfield 18, 3, 1, 2, 158), (111, .aaload, 1, 0, 0, 0), (112, .aload_n 3, 1, 0, 0, 0), (113, .getfield 121, 3, 2, 0, 112), (116, .iload 5, 2, 0, 0, 0)]
set_option maxRecDepth 100000 in
theorem zk_X1_append_6 : zl_X1_append_6.all (zgoodB zmt zm_X1_append) = true := by decide +kernel
def zl_X1_append_7 : List (Nat × zE) := [(118, .iaload, 1, 0, 0, 0), (119, .aload_n 3, 1, 0, 0, 0), (120, .getfield 122, 3, 2, 1, 116), (123, .iload 5, 2, 0, 0, 0), (125, .iaload, 1, 0, 0, 0), (126, .invokevirtual 123, 3, 9, 4, 1080), (129, .iinc 5 1, 3, 0, 0, 0), (132, .goto (-39), 3, 93, 0, 0), (135, .aload_n 0, 1, 0, 0, 0), (136, .dup, 1, 0, 0, 0)]
set_option maxRecDepth 100000 in
theorem zk_X1_append_7 : zl_X1_append_7.all (zgoodB zmt zm_X1_append) = true := by decide +kernel
def zl_X1_append_8 : List (Nat × zE) := [(137, .getfield 18, 3, 1, 2, 158), (140, .iconst 1, 1, 0, 0, 0), (141, .iadd, 1, 0, 0, 0), (142, .putfield 18, 3, 1, 2, 158), (145, .return_, 1, 0, 0, 0)]
set_option maxRecDepth 100000 in
theorem zk_X1_append_8 : zl_X1_append_8.all (zgoodB zmt zm_X1_append) = true := by decide +kernel
def zp_X1_append : Nat → Option zE := (ztr 67 (ztr 33 (ztr 16 (zlf zl_X1_append_0) (zlf zl_X1_append_1)) (ztr 51 (zlf zl_X1_append_2) (zlf zl_X1_append_3))) (ztr 99 (ztr 81 (zlf zl_X1_append_4) (zlf zl_X1_append_5)) (ztr 118 (zlf zl_X1_append_6) (ztr 137 (zlf zl_X1_append_7) (zlf zl_X1_append_8)))))
theorem za_X1_append : zall (zgood zmt zm_X1_append) zp_X1_append := (zall_tr (zall_tr (zall_tr (zall_lf zl_X1_append_0 zk_X1_append_0) (zall_lf zl_X1_append_1 zk_X1_append_1)) (zall_tr (zall_lf zl_X1_append_2 zk_X1_append_2) (zall_lf zl_X1_append_3 zk_X1_append_3))) (zall_tr (zall_tr (zall_lf zl_X1_append_4 zk_X1_append_4) (zall_lf zl_X1_append_5 zk_X1_append_5)) (zall_tr (zall_lf zl_X1_append_6 zk_X1_append_6) (zall_tr (zall_lf zl_X1_append_7 zk_X1_append_7) (zall_lf zl_X1_append_8 zk_X1_append_8)))))
def zl_X1_addPowers_0 : List (Nat × zE) := [(0, .iload_n 2, 1, 0, 0, 0), (1, .i2l, 1, 0, 0, 0), (2, .aload_n 0, 1, 0, 0, 0), (3, .getfield 46, 3, 1, 10, 168), (6, .invokestatic 127, 3, 70, 2, 1089), (9, .iload_n 3, 1, 0, 0, 0), (10, .i2l, 1, 0, 0, 0), (11, .aload_n 0, 1, 0, 0, 0), (12, .getfield 49, 3, 1, 11, 169), (15, .invokestatic 127, 3, 70, 2, 1089)]
set_option maxRecDepth 100000 in
theorem zk_X1_addPowers_0 : zl_X1_addPowers_0.all (zgoodB zmt zm_X1_addPowers) = true := by decide +kernel
def zl_X1_addPowers_1 : List (Nat × zE) := [(18, .iconst 0, 1, 0, 0, 0), (19, .istore 4, 2, 0, 0, 0), (21, .iload 4, 2, 0, 0, 0), (23, .bipush 21, 2, 0, 0, 0), (25, .if_icmp .ge 39, 3, 64, 0, 0), (28, .aload_n 1, 1, 0, 0, 0), (29, .iload 4, 2, 0, 0, 0), (31, .dup2, 1, 0, 0, 0), (32, .laload, 1, 0, 0, 0), (33, .aload_n 0, 1, 0, 0, 0)]
set_option maxRecDepth 100000 in
theorem zk_X1_addPowers_1 : zl_X1_addPowers_1.all (zgoodB zmt zm_X1_addPowers) = true := by decide +kernel
def zl_X1_addPowers_2 : List (Nat × zE) := [(34, .getfield 46, 3, 1, 10, 168), (37, .getstatic 96, 3, 0, 1, 547), (40, .iload 4, 2, 0, 0, 0), (42, .iaload, 1, 0, 0, 0), (43, .laload, 1, 0, 0, 0), (44, .aload_n 0, 1, 0, 0, 0), (45, .getfield 49, 3, 1, 11, 169), (48, .getstatic 99, 3, 1, 1, 548), (51, .iload 4, 2, 0, 0, 0), (53, .iaload, 1, 0, 0, 0)]
set_option maxRecDepth 100000 in
theorem zk_X1_addPowers_2 : zl_X1_addPowers_2.all (zgoodB zmt zm_X1_addPowers) = true := by decide +kernel
def zl_X1_addPowers_3 : List (Nat × zE) := [(54, .laload, 1, 0, 0, 0), (55, .lmul, 1, 0, 0, 0), (56, .ladd, 1, 0, 0, 0), (57, .lastore, 1, 0, 0, 0), (58, .iinc 4 1, 3, 0, 0, 0), (61, .goto (-40), 3, 21, 0, 0), (64, .return_, 1, 0, 0, 0)]
set_option maxRecDepth 100000 in
theorem zk_X1_addPowers_3 : zl_X1_addPowers_3.all (zgoodB zmt zm_X1_addPowers) = true := by decide +kernel
def zp_X1_addPowers : Nat → Option zE := (ztr 34 (ztr 18 (zlf zl_X1_addPowers_0) (zlf zl_X1_addPowers_1)) (ztr 54 (zlf zl_X1_addPowers_2) (zlf zl_X1_addPowers_3)))
theorem za_X1_addPowers : zall (zgood zmt zm_X1_addPowers) zp_X1_addPowers := (zall_tr (zall_tr (zall_lf zl_X1_addPowers_0 zk_X1_addPowers_0) (zall_lf zl_X1_addPowers_1 zk_X1_addPowers_1)) (zall_tr (zall_lf zl_X1_addPowers_2 zk_X1_addPowers_2) (zall_lf zl_X1_addPowers_3 zk_X1_addPowers_3)))
def zl_X1_findFewest_0 : List (Nat × zE) := [(0, .bipush 25, 2, 0, 0, 0), (2, .istore_n 2, 1, 0, 0, 0), (3, .iconst 0, 1, 0, 0, 0), (4, .istore_n 3, 1, 0, 0, 0), (5, .iload_n 3, 1, 0, 0, 0), (6, .aload_n 0, 1, 0, 0, 0), (7, .getfield 18, 3, 1, 2, 158), (10, .if_icmp .ge 86, 3, 96, 0, 0), (13, .iload_n 3, 1, 0, 0, 0), (14, .iconst 1, 1, 0, 0, 0)]
set_option maxRecDepth 100000 in
theorem zk_X1_findFewest_0 : zl_X1_findFewest_0.all (zgoodB zmt zm_X1_findFewest) = true := by decide +kernel
def zl_X1_findFewest_1 : List (Nat × zE) := [(15, .iadd, 1, 0, 0, 0), (16, .istore 4, 2, 0, 0, 0), (18, .iload 4, 2, 0, 0, 0), (20, .aload_n 0, 1, 0, 0, 0), (21, .getfield 18, 3, 1, 2, 158), (24, .if_icmp .ge 66, 3, 90, 0, 0), (27, .aload_n 0, 1, 0, 0, 0), (28, .getfield 28, 3, 1, 5, 163), (31, .iload_n 3, 1, 0, 0, 0), (32, .iaload, 1, 0, 0, 0)]
set_option maxRecDepth 100000 in
theorem zk_X1_findFewest_1 : zl_X1_findFewest_1.all (zgoodB zmt zm_X1_findFewest) = true := by decide +kernel
def zl_X1_findFewest_2 : List (Nat × zE) := [(33, .aload_n 0, 1, 0, 0, 0), (34, .getfield 28, 3, 1, 5, 163), (37, .iload 4, 2, 0, 0, 0), (39, .iaload, 1, 0, 0, 0), (40, .iadd, 1, 0, 0, 0), (41, .istore 5, 2, 0, 0, 0), (43, .iload 5, 2, 0, 0, 0), (45, .iload_n 2, 1, 0, 0, 0), (46, .if_icmp .ge 38, 3, 84, 0, 0), (49, .aload_n 0, 1, 0, 0, 0)]
set_option maxRecDepth 100000 in
theorem zk_X1_findFewest_2 : zl_X1_findFewest_2.all (zgoodB zmt zm_X1_findFewest) = true := by decide +kernel
def zl_X1_findFewest_3 : List (Nat × zE) := [(50, .iload_n 3, 1, 0, 0, 0), (51, .iload 4, 2, 0, 0, 0), (53, .invokevirtual 131, 3, 11, 3, 1110), (56, .ifCond .eq 28, 3, 84, 0, 0), (59, .aload_n 0, 1, 0, 0, 0), (60, .iload_n 1, 1, 0, 0, 0), (61, .iload_n 3, 1, 0, 0, 0), (62, .iload 4, 2, 0, 0, 0), (64, .invokevirtual 134, 3, 13, 4, 1132), (67, .ifCond .eq 17, 3, 84, 0, 0)]
set_option maxRecDepth 100000 in
theorem zk_X1_findFewest_3 : zl_X1_findFewest_3.all (zgoodB zmt zm_X1_findFewest) = true := by decide +kernel
def zl_X1_findFewest_4 : List (Nat × zE) := [(70, .iload 5, 2, 0, 0, 0), (72, .istore_n 2, 1, 0, 0, 0), (73, .aload_n 0, 1, 0, 0, 0), (74, .iload_n 3, 1, 0, 0, 0), (75, .putfield 72, 3, 1, 17, 178), (78, .aload_n 0, 1, 0, 0, 0), (79, .iload 4, 2, 0, 0, 0), (81, .putfield 75, 3, 1, 18, 180), (84, .iinc 4 1, 3, 0, 0, 0), (87, .goto (-69), 3, 18, 0, 0)]
set_option maxRecDepth 100000 in
theorem zk_X1_findFewest_4 : zl_X1_findFewest_4.all (zgoodB zmt zm_X1_findFewest) = true := by decide +kernel
def zl_X1_findFewest_5 : List (Nat × zE) := [(90, .iinc 3 1, 3, 0, 0, 0), (93, .goto (-88), 3, 5, 0, 0), (96, .iload_n 2, 1, 0, 0, 0), (97, .bipush 24, 2, 0, 0, 0), (99, .if_icmp .gt 7, 3, 106, 0, 0), (102, .iconst 1, 1, 0, 0, 0), (103, .goto 4, 3, 107, 0, 0), (106, .iconst 0, 1, 0, 0, 0), (107, .ireturn, 1, 0, 0, 0)]
set_option maxRecDepth 100000 in
theorem zk_X1_findFewest_5 : zl_X1_findFewest_5.all (zgoodB zmt zm_X1_findFewest) = true := by decide +kernel
def zp_X1_findFewest : Nat → Option zE := (ztr 50 (ztr 15 (zlf zl_X1_findFewest_0) (ztr 33 (zlf zl_X1_findFewest_1) (zlf zl_X1_findFewest_2))) (ztr 70 (zlf zl_X1_findFewest_3) (ztr 90 (zlf zl_X1_findFewest_4) (zlf zl_X1_findFewest_5))))
theorem za_X1_findFewest : zall (zgood zmt zm_X1_findFewest) zp_X1_findFewest := (zall_tr (zall_tr (zall_lf zl_X1_findFewest_0 zk_X1_findFewest_0) (zall_tr (zall_lf zl_X1_findFewest_1 zk_X1_findFewest_1) (zall_lf zl_X1_findFewest_2 zk_X1_findFewest_2))) (zall_tr (zall_lf zl_X1_findFewest_3 zk_X1_findFewest_3) (zall_tr (zall_lf zl_X1_findFewest_4 zk_X1_findFewest_4) (zall_lf zl_X1_findFewest_5 zk_X1_findFewest_5))))
def zl_X1_weigh_0 : List (Nat × zE) := [(0, .aload_n 0, 1, 0, 0, 0), (1, .getfield 31, 3, 1, 6, 164), (4, .iload_n 2, 1, 0, 0, 0), (5, .iaload, 1, 0, 0, 0), (6, .aload_n 0, 1, 0, 0, 0), (7, .getfield 31, 3, 1, 6, 164), (10, .iload_n 1, 1, 0, 0, 0), (11, .iaload, 1, 0, 0, 0), (12, .isub, 1, 0, 0, 0), (13, .i2l, 1, 0, 0, 0)]
set_option maxRecDepth 100000 in
theorem zk_X1_weigh_0 : zl_X1_weigh_0.all (zgoodB zmt zm_X1_weigh) = true := by decide +kernel
def zl_X1_weigh_1 : List (Nat × zE) := [(14, .lstore_n 3, 1, 0, 0, 0), (15, .lload_n 3, 1, 0, 0, 0), (16, .lconst 0, 1, 0, 0, 0), (17, .lcmp, 1, 0, 0, 0), (18, .ifCond .ne 5, 3, 23, 0, 0), (21, .iconst 0, 1, 0, 0, 0), (22, .ireturn, 1, 0, 0, 0), (23, .aload_n 0, 1, 0, 0, 0), (24, .getfield 9, 3, 1, 0, 155), (27, .iconst 1, 1, 0, 0, 0)]
set_option maxRecDepth 100000 in
theorem zk_X1_weigh_1 : zl_X1_weigh_1.all (zgoodB zmt zm_X1_weigh) = true := by decide +kernel
def zl_X1_weigh_2 : List (Nat × zE) := [(28, .if_icmp .ne 7, 3, 35, 0, 0), (31, .iconst 3, 1, 0, 0, 0), (32, .goto 4, 3, 36, 0, 0), (35, .iconst 2, 1, 0, 0, 0), (36, .istore 5, 2, 0, 0, 0), (38, .iconst 3, 1, 0, 0, 0), (39, .istore 6, 2, 0, 0, 0), (41, .aload_n 0, 1, 0, 0, 0), (42, .getfield 39, 3, 1, 8, 166), (45, .iconst 0, 1, 0, 0, 0)]
set_option maxRecDepth 100000 in
theorem zk_X1_weigh_2 : zl_X1_weigh_2.all (zgoodB zmt zm_X1_weigh) = true := by decide +kernel
def zl_X1_weigh_3 : List (Nat × zE) := [(46, .laload, 1, 0, 0, 0), (47, .aload_n 0, 1, 0, 0, 0), (48, .getfield 43, 3, 1, 9, 167), (51, .iload 6, 2, 0, 0, 0), (53, .laload, 1, 0, 0, 0), (54, .lmul, 1, 0, 0, 0), (55, .lstore 7, 2, 0, 0, 0), (57, .iload 5, 2, 0, 0, 0), (59, .i2l, 1, 0, 0, 0), (60, .aload_n 0, 1, 0, 0, 0)]
set_option maxRecDepth 100000 in
theorem zk_X1_weigh_3 : zl_X1_weigh_3.all (zgoodB zmt zm_X1_weigh) = true := by decide +kernel
def zl_X1_weigh_4 : List (Nat × zE) := [(61, .getfield 39, 3, 1, 8, 166), (64, .iload 6, 2, 0, 0, 0), (66, .laload, 1, 0, 0, 0), (67, .lmul, 1, 0, 0, 0), (68, .aload_n 0, 1, 0, 0, 0), (69, .getfield 43, 3, 1, 9, 167), (72, .iconst 0, 1, 0, 0, 0), (73, .laload, 1, 0, 0, 0), (74, .lmul, 1, 0, 0, 0), (75, .lstore 9, 2, 0, 0, 0)]
set_option maxRecDepth 100000 in
theorem zk_X1_weigh_4 : zl_X1_weigh_4.all (zgoodB zmt zm_X1_weigh) = true := by decide +kernel
def zl_X1_weigh_5 : List (Nat × zE) := [(77, .aload_n 0, 1, 0, 0, 0), (78, .getfield 43, 3, 1, 9, 167), (81, .iconst 0, 1, 0, 0, 0), (82, .laload, 1, 0, 0, 0), (83, .aload_n 0, 1, 0, 0, 0), (84, .getfield 43, 3, 1, 9, 167), (87, .iload 6, 2, 0, 0, 0), (89, .laload, 1, 0, 0, 0), (90, .lmul, 1, 0, 0, 0), (91, .lload_n 3, 1, 0, 0, 0)]
set_option maxRecDepth 100000 in
theorem zk_X1_weigh_5 : zl_X1_weigh_5.all (zgoodB zmt zm_X1_weigh) = true := by decide +kernel
def zl_X1_weigh_6 : List (Nat × zE) := [(92, .lmul, 1, 0, 0, 0), (93, .lstore 11, 2, 0, 0, 0), (95, .aload_n 0, 1, 0, 0, 0), (96, .getfield 55, 3, 1, 12, 170), (99, .lload 7, 2, 0, 0, 0), (101, .aload_n 0, 1, 0, 0, 0), (102, .getfield 31, 3, 1, 6, 164), (105, .iload_n 2, 1, 0, 0, 0), (106, .iaload, 1, 0, 0, 0), (107, .i2l, 1, 0, 0, 0)]
set_option maxRecDepth 100000 in
theorem zk_X1_weigh_6 : zl_X1_weigh_6.all (zgoodB zmt zm_X1_weigh) = true := by decide +kernel
def zl_X1_weigh_7 : List (Nat × zE) := [(108, .lmul, 1, 0, 0, 0), (109, .lload 9, 2, 0, 0, 0), (111, .lsub, 1, 0, 0, 0), (112, .lload 11, 2, 0, 0, 0), (114, .aload_n 0, 1, 0, 0, 0), (115, .getfield 28, 3, 1, 5, 163), (118, .iload_n 1, 1, 0, 0, 0), (119, .iaload, 1, 0, 0, 0), (120, .i2l, 1, 0, 0, 0), (121, .lmul, 1, 0, 0, 0)]
set_option maxRecDepth 100000 in
theorem zk_X1_weigh_7 : zl_X1_weigh_7.all (zgoodB zmt zm_X1_weigh) = true := by decide +kernel
def zl_X1_weigh_8 : List (Nat × zE) := [(122, .invokevirtual 138, 3, 1, 3, 1118), (125, .aload_n 0, 1, 0, 0, 0), (126, .getfield 59, 3, 1, 13, 171), (129, .lload 9, 2, 0, 0, 0), (131, .lload 7, 2, 0, 0, 0), (133, .aload_n 0, 1, 0, 0, 0), (134, .getfield 31, 3, 1, 6, 164), (137, .iload_n 1, 1, 0, 0, 0), (138, .iaload, 1, 0, 0, 0), (139, .i2l, 1, 0, 0, 0)]
set_option maxRecDepth 100000 in
theorem zk_X1_weigh_8 : zl_X1_weigh_8.all (zgoodB zmt zm_X1_weigh) = true := by decide +kernel
def zl_X1_weigh_9 : List (Nat × zE) := [(140, .lmul, 1, 0, 0, 0), (141, .lsub, 1, 0, 0, 0), (142, .lload 11, 2, 0, 0, 0), (144, .aload_n 0, 1, 0, 0, 0), (145, .getfield 28, 3, 1, 5, 163), (148, .iload_n 2, 1, 0, 0, 0), (149, .iaload, 1, 0, 0, 0), (150, .i2l, 1, 0, 0, 0), (151, .lmul, 1, 0, 0, 0), (152, .invokevirtual 138, 3, 1, 3, 1118)]
set_option maxRecDepth 100000 in
theorem zk_X1_weigh_9 : zl_X1_weigh_9.all (zgoodB zmt zm_X1_weigh) = true := by decide +kernel
def zl_X1_weigh_10 : List (Nat × zE) := [(155, .aload_n 0, 1, 0, 0, 0), (156, .getfield 55, 3, 1, 12, 170), (159, .getfield 106, 3, 0, 0, 145), (162, .lconst 0, 1, 0, 0, 0), (163, .lcmp, 1, 0, 0, 0), (164, .ifCond .le 26, 3, 190, 0, 0), (167, .aload_n 0, 1, 0, 0, 0), (168, .getfield 59, 3, 1, 13, 171), (171, .getfield 106, 3, 0, 0, 145), (174, .lconst 0, 1, 0, 0, 0)]
set_option maxRecDepth 100000 in
theorem zk_X1_weigh_10 : zl_X1_weigh_10.all (zgoodB zmt zm_X1_weigh) = true := by decide +kernel
def zl_X1_weigh_11 : List (Nat × zE) := [(175, .lcmp, 1, 0, 0, 0), (176, .ifCond .le 14, 3, 190, 0, 0), (179, .aload_n 0, 1, 0, 0, 0), (180, .invokevirtual 142, 3, 12, 1, 1120), (183, .ifCond .eq 7, 3, 190, 0, 0), (186, .iconst 1, 1, 0, 0, 0), (187, .goto 4, 3, 191, 0, 0), (190, .iconst 0, 1, 0, 0, 0), (191, .ireturn, 1, 0, 0, 0)]
set_option maxRecDepth 100000 in
theorem zk_X1_weigh_11 : zl_X1_weigh_11.all (zgoodB zmt zm_X1_weigh) = true := by decide +kernel
def zp_X1_weigh : Nat → Option zE := (ztr 92 (ztr 46 (ztr 14 (zlf zl_X1_weigh_0) (ztr 28 (zlf zl_X1_weigh_1) (zlf zl_X1_weigh_2))) (ztr 61 (zlf zl_X1_weigh_3) (ztr 77 (zlf zl_X1_weigh_4) (zlf zl_X1_weigh_5)))) (ztr 140 (ztr 108 (zlf zl_X1_weigh_6) (ztr 122 (zlf zl_X1_weigh_7) (zlf zl_X1_weigh_8))) (ztr 155 (zlf zl_X1_weigh_9) (ztr 175 (zlf zl_X1_weigh_10) (zlf zl_X1_weigh_11)))))
theorem za_X1_weigh : zall (zgood zmt zm_X1_weigh) zp_X1_weigh := (zall_tr (zall_tr (zall_tr (zall_lf zl_X1_weigh_0 zk_X1_weigh_0) (zall_tr (zall_lf zl_X1_weigh_1 zk_X1_weigh_1) (zall_lf zl_X1_weigh_2 zk_X1_weigh_2))) (zall_tr (zall_lf zl_X1_weigh_3 zk_X1_weigh_3) (zall_tr (zall_lf zl_X1_weigh_4 zk_X1_weigh_4) (zall_lf zl_X1_weigh_5 zk_X1_weigh_5)))) (zall_tr (zall_tr (zall_lf zl_X1_weigh_6 zk_X1_weigh_6) (zall_tr (zall_lf zl_X1_weigh_7 zk_X1_weigh_7) (zall_lf zl_X1_weigh_8 zk_X1_weigh_8))) (zall_tr (zall_lf zl_X1_weigh_9 zk_X1_weigh_9) (zall_tr (zall_lf zl_X1_weigh_10 zk_X1_weigh_10) (zall_lf zl_X1_weigh_11 zk_X1_weigh_11)))))
def zl_X1_bringToOneLower_0 : List (Nat × zE) := [(0, .aload_n 0, 1, 0, 0, 0), (1, .getfield 55, 3, 1, 12, 170), (4, .getfield 113, 3, 0, 1, 148), (7, .aload_n 0, 1, 0, 0, 0), (8, .getfield 59, 3, 1, 13, 171), (11, .getfield 113, 3, 0, 1, 148), (14, .invokestatic 146, 3, 71, 2, 1129), (17, .lstore_n 1, 1, 0, 0, 0), (18, .lload_n 1, 1, 0, 0, 0), (19, .lconst 0, 1, 0, 0, 0)]
set_option maxRecDepth 100000 in
theorem zk_X1_bringToOneLower_0 : zl_X1_bringToOneLower_0.all (zgoodB zmt zm_X1_bringToOneLower) = true := by decide +kernel
def zl_X1_bringToOneLower_1 : List (Nat × zE) := [(20, .lcmp, 1, 0, 0, 0), (21, .ifCond .eq 27, 3, 48, 0, 0), (24, .aload_n 0, 1, 0, 0, 0), (25, .getfield 55, 3, 1, 12, 170), (28, .getfield 113, 3, 0, 1, 148), (31, .lconst 0, 1, 0, 0, 0), (32, .lcmp, 1, 0, 0, 0), (33, .ifCond .eq 15, 3, 48, 0, 0), (36, .aload_n 0, 1, 0, 0, 0), (37, .getfield 59, 3, 1, 13, 171)]
set_option maxRecDepth 100000 in
theorem zk_X1_bringToOneLower_1 : zl_X1_bringToOneLower_1.all (zgoodB zmt zm_X1_bringToOneLower) = true := by decide +kernel
def zl_X1_bringToOneLower_2 : List (Nat × zE) := [(40, .getfield 113, 3, 0, 1, 148), (43, .lconst 0, 1, 0, 0, 0), (44, .lcmp, 1, 0, 0, 0), (45, .ifCond .ne 5, 3, 50, 0, 0), (48, .iconst 0, 1, 0, 0, 0), (49, .ireturn, 1, 0, 0, 0), (50, .aload_n 0, 1, 0, 0, 0), (51, .aload_n 0, 1, 0, 0, 0), (52, .getfield 55, 3, 1, 12, 170), (55, .getfield 113, 3, 0, 1, 148)]
set_option maxRecDepth 100000 in
theorem zk_X1_bringToOneLower_2 : zl_X1_bringToOneLower_2.all (zgoodB zmt zm_X1_bringToOneLower) = true := by decide +kernel
def zl_X1_bringToOneLower_3 : List (Nat × zE) := [(58, .lload_n 1, 1, 0, 0, 0), (59, .ldiv, 1, 0, 0, 0), (60, .aload_n 0, 1, 0, 0, 0), (61, .getfield 59, 3, 1, 13, 171), (64, .getfield 113, 3, 0, 1, 148), (67, .lmul, 1, 0, 0, 0), (68, .putfield 69, 3, 17, 16, 176), (71, .aload_n 0, 1, 0, 0, 0), (72, .aload_n 0, 1, 0, 0, 0), (73, .getfield 55, 3, 1, 12, 170)]
set_option maxRecDepth 100000 in
theorem zk_X1_bringToOneLower_3 : zl_X1_bringToOneLower_3.all (zgoodB zmt zm_X1_bringToOneLower) = true := by decide +kernel
def zl_X1_bringToOneLower_4 : List (Nat × zE) := [(76, .getfield 106, 3, 0, 0, 145), (79, .aload_n 0, 1, 0, 0, 0), (80, .getfield 69, 3, 1, 16, 176), (83, .aload_n 0, 1, 0, 0, 0), (84, .getfield 55, 3, 1, 12, 170), (87, .getfield 113, 3, 0, 1, 148), (90, .ldiv, 1, 0, 0, 0), (91, .lmul, 1, 0, 0, 0), (92, .putfield 62, 3, 17, 14, 172), (95, .aload_n 0, 1, 0, 0, 0)]
set_option maxRecDepth 100000 in
theorem zk_X1_bringToOneLower_4 : zl_X1_bringToOneLower_4.all (zgoodB zmt zm_X1_bringToOneLower) = true := by decide +kernel
def zl_X1_bringToOneLower_5 : List (Nat × zE) := [(96, .aload_n 0, 1, 0, 0, 0), (97, .getfield 59, 3, 1, 13, 171), (100, .getfield 106, 3, 0, 0, 145), (103, .aload_n 0, 1, 0, 0, 0), (104, .getfield 69, 3, 1, 16, 176), (107, .aload_n 0, 1, 0, 0, 0), (108, .getfield 59, 3, 1, 13, 171), (111, .getfield 113, 3, 0, 1, 148), (114, .ldiv, 1, 0, 0, 0), (115, .lmul, 1, 0, 0, 0)]
set_option maxRecDepth 100000 in
theorem zk_X1_bringToOneLower_5 : zl_X1_bringToOneLower_5.all (zgoodB zmt zm_X1_bringToOneLower) = true := by decide +kernel
def zl_X1_bringToOneLower_6 : List (Nat × zE) := [(116, .putfield 66, 3, 17, 15, 174), (119, .aload_n 0, 1, 0, 0, 0), (120, .getfield 69, 3, 1, 16, 176), (123, .ldc2_w 150, 3, 10000, 0, 565), (126, .lcmp, 1, 0, 0, 0), (127, .ifCond .gt 29, 3, 156, 0, 0), (130, .aload_n 0, 1, 0, 0, 0), (131, .getfield 62, 3, 1, 14, 172), (134, .ldc2_w 150, 3, 10000, 0, 565), (137, .lcmp, 1, 0, 0, 0)]
set_option maxRecDepth 100000 in
theorem zk_X1_bringToOneLower_6 : zl_X1_bringToOneLower_6.all (zgoodB zmt zm_X1_bringToOneLower) = true := by decide +kernel
def zl_X1_bringToOneLower_7 : List (Nat × zE) := [(138, .ifCond .gt 18, 3, 156, 0, 0), (141, .aload_n 0, 1, 0, 0, 0), (142, .getfield 66, 3, 1, 15, 174), (145, .ldc2_w 150, 3, 10000, 0, 565), (148, .lcmp, 1, 0, 0, 0), (149, .ifCond .gt 7, 3, 156, 0, 0), (152, .iconst 1, 1, 0, 0, 0), (153, .goto 4, 3, 157, 0, 0), (156, .iconst 0, 1, 0, 0, 0), (157, .ireturn, 1, 0, 0, 0)]
set_option maxRecDepth 100000 in
theorem zk_X1_bringToOneLower_7 : zl_X1_bringToOneLower_7.all (zgoodB zmt zm_X1_bringToOneLower) = true := by decide +kernel
def zp_X1_bringToOneLower : Nat → Option zE := (ztr 76 (ztr 40 (ztr 20 (zlf zl_X1_bringToOneLower_0) (zlf zl_X1_bringToOneLower_1)) (ztr 58 (zlf zl_X1_bringToOneLower_2) (zlf zl_X1_bringToOneLower_3))) (ztr 116 (ztr 96 (zlf zl_X1_bringToOneLower_4) (zlf zl_X1_bringToOneLower_5)) (ztr 138 (zlf zl_X1_bringToOneLower_6) (zlf zl_X1_bringToOneLower_7))))
theorem za_X1_bringToOneLower : zall (zgood zmt zm_X1_bringToOneLower) zp_X1_bringToOneLower := (zall_tr (zall_tr (zall_tr (zall_lf zl_X1_bringToOneLower_0 zk_X1_bringToOneLower_0) (zall_lf zl_X1_bringToOneLower_1 zk_X1_bringToOneLower_1)) (zall_tr (zall_lf zl_X1_bringToOneLower_2 zk_X1_bringToOneLower_2) (zall_lf zl_X1_bringToOneLower_3 zk_X1_bringToOneLower_3))) (zall_tr (zall_tr (zall_lf zl_X1_bringToOneLower_4 zk_X1_bringToOneLower_4) (zall_lf zl_X1_bringToOneLower_5 zk_X1_bringToOneLower_5)) (zall_tr (zall_lf zl_X1_bringToOneLower_6 zk_X1_bringToOneLower_6) (zall_lf zl_X1_bringToOneLower_7 zk_X1_bringToOneLower_7))))
def zl_X1_isRightUpTo_0 : List (Nat × zE) := [(0, .iload_n 1, 1, 0, 0, 0), (1, .iconst 1, 1, 0, 0, 0), (2, .iadd, 1, 0, 0, 0), (3, .iload_n 1, 1, 0, 0, 0), (4, .iconst 2, 1, 0, 0, 0), (5, .iadd, 1, 0, 0, 0), (6, .imul, 1, 0, 0, 0), (7, .iconst 2, 1, 0, 0, 0), (8, .idiv, 1, 0, 0, 0), (9, .istore 4, 2, 0, 0, 0)]
set_option maxRecDepth 100000 in
theorem zk_X1_isRightUpTo_0 : zl_X1_isRightUpTo_0.all (zgoodB zmt zm_X1_isRightUpTo) = true := by decide +kernel
def zl_X1_isRightUpTo_1 : List (Nat × zE) := [(11, .iconst 0, 1, 0, 0, 0), (12, .istore 5, 2, 0, 0, 0), (14, .iload 5, 2, 0, 0, 0), (16, .iload 4, 2, 0, 0, 0), (18, .if_icmp .ge 75, 3, 93, 0, 0), (21, .iload 5, 2, 0, 0, 0), (23, .bipush 21, 2, 0, 0, 0), (25, .if_icmp .ge 68, 3, 93, 0, 0), (28, .aload_n 0, 1, 0, 0, 0), (29, .getfield 62, 3, 1, 14, 172)]
set_option maxRecDepth 100000 in
theorem zk_X1_isRightUpTo_1 : zl_X1_isRightUpTo_1.all (zgoodB zmt zm_X1_isRightUpTo) = true := by decide +kernel
def zl_X1_isRightUpTo_2 : List (Nat × zE) := [(32, .aload_n 0, 1, 0, 0, 0), (33, .getfield 36, 3, 1, 7, 165), (36, .iload_n 2, 1, 0, 0, 0), (37, .aaload, 1, 0, 0, 0), (38, .iload 5, 2, 0, 0, 0), (40, .laload, 1, 0, 0, 0), (41, .lmul, 1, 0, 0, 0), (42, .aload_n 0, 1, 0, 0, 0), (43, .getfield 66, 3, 1, 15, 174), (46, .aload_n 0, 1, 0, 0, 0)]
set_option maxRecDepth 100000 in
theorem zk_X1_isRightUpTo_2 : zl_X1_isRightUpTo_2.all (zgoodB zmt zm_X1_isRightUpTo) = true := by decide +kernel
def zl_X1_isRightUpTo_3 : List (Nat × zE) := [(47, .getfield 36, 3, 1, 7, 165), (50, .iload_n 3, 1, 0, 0, 0), (51, .aaload, 1, 0, 0, 0), (52, .iload 5, 2, 0, 0, 0), (54, .laload, 1, 0, 0, 0), (55, .lmul, 1, 0, 0, 0), (56, .ladd, 1, 0, 0, 0), (57, .lstore 6, 2, 0, 0, 0), (59, .lload 6, 2, 0, 0, 0), (61, .aload_n 0, 1, 0, 0, 0)]
set_option maxRecDepth 100000 in
theorem zk_X1_isRightUpTo_3 : zl_X1_isRightUpTo_3.all (zgoodB zmt zm_X1_isRightUpTo) = true := by decide +kernel
def zl_X1_isRightUpTo_4 : List (Nat × zE) := [(62, .getfield 43, 3, 1, 9, 167), (65, .iload 5, 2, 0, 0, 0), (67, .laload, 1, 0, 0, 0), (68, .lmul, 1, 0, 0, 0), (69, .aload_n 0, 1, 0, 0, 0), (70, .getfield 39, 3, 1, 8, 166), (73, .iload 5, 2, 0, 0, 0), (75, .laload, 1, 0, 0, 0), (76, .aload_n 0, 1, 0, 0, 0), (77, .getfield 69, 3, 1, 16, 176)]
set_option maxRecDepth 100000 in
theorem zk_X1_isRightUpTo_4 : zl_X1_isRightUpTo_4.all (zgoodB zmt zm_X1_isRightUpTo) = true := by decide +kernel
def zl_X1_isRightUpTo_5 : List (Nat × zE) := [(80, .lmul, 1, 0, 0, 0), (81, .lcmp, 1, 0, 0, 0), (82, .ifCond .eq 5, 3, 87, 0, 0), (85, .iconst 0, 1, 0, 0, 0), (86, .ireturn, 1, 0, 0, 0), (87, .iinc 5 1, 3, 0, 0, 0), (90, .goto (-76), 3, 14, 0, 0), (93, .iconst 1, 1, 0, 0, 0), (94, .ireturn, 1, 0, 0, 0)]
set_option maxRecDepth 100000 in
theorem zk_X1_isRightUpTo_5 : zl_X1_isRightUpTo_5.all (zgoodB zmt zm_X1_isRightUpTo) = true := by decide +kernel
def zp_X1_isRightUpTo : Nat → Option zE := (ztr 47 (ztr 11 (zlf zl_X1_isRightUpTo_0) (ztr 32 (zlf zl_X1_isRightUpTo_1) (zlf zl_X1_isRightUpTo_2))) (ztr 62 (zlf zl_X1_isRightUpTo_3) (ztr 80 (zlf zl_X1_isRightUpTo_4) (zlf zl_X1_isRightUpTo_5))))
theorem za_X1_isRightUpTo : zall (zgood zmt zm_X1_isRightUpTo) zp_X1_isRightUpTo := (zall_tr (zall_tr (zall_lf zl_X1_isRightUpTo_0 zk_X1_isRightUpTo_0) (zall_tr (zall_lf zl_X1_isRightUpTo_1 zk_X1_isRightUpTo_1) (zall_lf zl_X1_isRightUpTo_2 zk_X1_isRightUpTo_2))) (zall_tr (zall_lf zl_X1_isRightUpTo_3 zk_X1_isRightUpTo_3) (zall_tr (zall_lf zl_X1_isRightUpTo_4 zk_X1_isRightUpTo_4) (zall_lf zl_X1_isRightUpTo_5 zk_X1_isRightUpTo_5))))
def zl_X2_init_0 : List (Nat × zE) := [(0, .aload_n 0, 1, 0, 0, 0), (1, .invokespecial 3, 3, 900, 0, 110), (4, .aload_n 0, 1, 0, 0, 0), (5, .bipush 8, 2, 0, 0, 0), (7, .newarray .int, 2, 0, 0, 0), (9, .putfield 9, 3, 34, 0, 111), (12, .aload_n 0, 1, 0, 0, 0), (13, .bipush 8, 2, 0, 0, 0), (15, .newarray .int, 2, 0, 0, 0), (17, .putfield 15, 3, 34, 1, 115)]
set_option maxRecDepth 100000 in
theorem zk_X2_init_0 : zl_X2_init_0.all (zgoodB zmt zm_X2_init) = true := by decide +kernel
def zl_X2_init_1 : List (Nat × zE) := [(20, .aload_n 0, 1, 0, 0, 0), (21, .iconst 0, 1, 0, 0, 0), (22, .putfield 18, 3, 2, 2, 119), (25, .return_, 1, 0, 0, 0)]
set_option maxRecDepth 100000 in
theorem zk_X2_init_1 : zl_X2_init_1.all (zgoodB zmt zm_X2_init) = true := by decide +kernel
def zp_X2_init : Nat → Option zE := (ztr 20 (zlf zl_X2_init_0) (zlf zl_X2_init_1))
theorem za_X2_init : zall (zgood zmt zm_X2_init) zp_X2_init := (zall_tr (zall_lf zl_X2_init_0 zk_X2_init_0) (zall_lf zl_X2_init_1 zk_X2_init_1))
def zl_X2_gather_0 : List (Nat × zE) := [(0, .aload_n 0, 1, 0, 0, 0), (1, .iconst 0, 1, 0, 0, 0), (2, .putfield 18, 3, 2, 2, 119), (5, .iload_n 1, 1, 0, 0, 0), (6, .iconst 1, 1, 0, 0, 0), (7, .if_icmp .ne 36, 3, 43, 0, 0), (10, .iload_n 2, 1, 0, 0, 0), (11, .iload_n 3, 1, 0, 0, 0), (12, .isub, 1, 0, 0, 0), (13, .iload 4, 2, 0, 0, 0)]
set_option maxRecDepth 100000 in
theorem zk_X2_gather_0 : zl_X2_gather_0.all (zgoodB zmt zm_X2_gather) = true := by decide +kernel
def zl_X2_gather_1 : List (Nat × zE) := [(15, .isub, 1, 0, 0, 0), (16, .istore 5, 2, 0, 0, 0), (18, .aload_n 0, 1, 0, 0, 0), (19, .iload_n 3, 1, 0, 0, 0), (20, .iload 4, 2, 0, 0, 0), (22, .invokevirtual 22, 3, 16, 3, 710), (25, .aload_n 0, 1, 0, 0, 0), (26, .iload_n 3, 1, 0, 0, 0), (27, .iload 5, 2, 0, 0, 0), (29, .invokevirtual 22, 3, 16, 3, 710)]
set_option maxRecDepth 100000 in
theorem zk_X2_gather_1 : zl_X2_gather_1.all (zgoodB zmt zm_X2_gather) = true := by decide +kernel
def zl_X2_gather_2 : List (Nat × zE) := [(32, .aload_n 0, 1, 0, 0, 0), (33, .iload 4, 2, 0, 0, 0), (35, .iload 5, 2, 0, 0, 0), (37, .invokevirtual 22, 3, 16, 3, 710), (40, .goto 35, 3, 75, 0, 0), (43, .aload_n 0, 1, 0, 0, 0), (44, .iload_n 3, 1, 0, 0, 0), (45, .iload 4, 2, 0, 0, 0), (47, .invokevirtual 22, 3, 16, 3, 710), (50, .aload_n 0, 1, 0, 0, 0)]
set_option maxRecDepth 100000 in
theorem zk_X2_gather_2 : zl_X2_gather_2.all (zgoodB zmt zm_X2_gather) = true := by decide +kernel
def zl_X2_gather_3 : List (Nat × zE) := [(51, .iload_n 3, 1, 0, 0, 0), (52, .iload 4, 2, 0, 0, 0), (54, .ineg, 1, 0, 0, 0), (55, .invokevirtual 22, 3, 16, 3, 710), (58, .aload_n 0, 1, 0, 0, 0), (59, .iload_n 3, 1, 0, 0, 0), (60, .ineg, 1, 0, 0, 0), (61, .iload 4, 2, 0, 0, 0), (63, .invokevirtual 22, 3, 16, 3, 710), (66, .aload_n 0, 1, 0, 0, 0)]
set_option maxRecDepth 100000 in
theorem zk_X2_gather_3 : zl_X2_gather_3.all (zgoodB zmt zm_X2_gather) = true := by decide +kernel
def zl_X2_gather_4 : List (Nat × zE) := [(67, .iload_n 3, 1, 0, 0, 0), (68, .ineg, 1, 0, 0, 0), (69, .iload 4, 2, 0, 0, 0), (71, .ineg, 1, 0, 0, 0), (72, .invokevirtual 22, 3, 16, 3, 710), (75, .return_, 1, 0, 0, 0)]
set_option maxRecDepth 100000 in
theorem zk_X2_gather_4 : zl_X2_gather_4.all (zgoodB zmt zm_X2_gather) = true := by decide +kernel
def zp_X2_gather : Nat → Option zE := (ztr 32 (ztr 15 (zlf zl_X2_gather_0) (zlf zl_X2_gather_1)) (ztr 51 (zlf zl_X2_gather_2) (ztr 67 (zlf zl_X2_gather_3) (zlf zl_X2_gather_4))))
theorem za_X2_gather : zall (zgood zmt zm_X2_gather) zp_X2_gather := (zall_tr (zall_tr (zall_lf zl_X2_gather_0 zk_X2_gather_0) (zall_lf zl_X2_gather_1 zk_X2_gather_1)) (zall_tr (zall_lf zl_X2_gather_2 zk_X2_gather_2) (zall_tr (zall_lf zl_X2_gather_3 zk_X2_gather_3) (zall_lf zl_X2_gather_4 zk_X2_gather_4))))
def zl_X2_insertBothWays_0 : List (Nat × zE) := [(0, .aload_n 0, 1, 0, 0, 0), (1, .iload_n 1, 1, 0, 0, 0), (2, .iload_n 2, 1, 0, 0, 0), (3, .invokevirtual 26, 3, 17, 3, 718), (6, .aload_n 0, 1, 0, 0, 0), (7, .iload_n 2, 1, 0, 0, 0), (8, .iload_n 1, 1, 0, 0, 0), (9, .invokevirtual 26, 3, 17, 3, 718), (12, .return_, 1, 0, 0, 0)]
set_option maxRecDepth 100000 in
theorem zk_X2_insertBothWays_0 : zl_X2_insertBothWays_0.all (zgoodB zmt zm_X2_insertBothWays) = true := by decide +kernel
def zp_X2_insertBothWays : Nat → Option zE := (zlf zl_X2_insertBothWays_0)
theorem za_X2_insertBothWays : zall (zgood zmt zm_X2_insertBothWays) zp_X2_insertBothWays := (zall_lf zl_X2_insertBothWays_0 zk_X2_insertBothWays_0)
def zl_X2_insert_0 : List (Nat × zE) := [(0, .iconst 0, 1, 0, 0, 0), (1, .istore_n 3, 1, 0, 0, 0), (2, .iload_n 3, 1, 0, 0, 0), (3, .aload_n 0, 1, 0, 0, 0), (4, .getfield 18, 3, 2, 2, 119), (7, .if_icmp .ge 19, 3, 26, 0, 0), (10, .aload_n 0, 1, 0, 0, 0), (11, .iload_n 3, 1, 0, 0, 0), (12, .iload_n 1, 1, 0, 0, 0), (13, .iload_n 2, 1, 0, 0, 0)]
set_option maxRecDepth 100000 in
theorem zk_X2_insert_0 : zl_X2_insert_0.all (zgoodB zmt zm_X2_insert) = true := by decide +kernel
def zl_X2_insert_1 : List (Nat × zE) := [(14, .invokevirtual 29, 3, 18, 4, 726), (17, .ifCond .eq 9, 3, 26, 0, 0), (20, .iinc 3 1, 3, 0, 0, 0), (23, .goto (-21), 3, 2, 0, 0), (26, .iload_n 3, 1, 0, 0, 0), (27, .aload_n 0, 1, 0, 0, 0), (28, .getfield 18, 3, 2, 2, 119), (31, .if_icmp .ge 27, 3, 58, 0, 0), (34, .aload_n 0, 1, 0, 0, 0), (35, .getfield 9, 3, 2, 0, 111)]
set_option maxRecDepth 100000 in
theorem zk_X2_insert_1 : zl_X2_insert_1.all (zgoodB zmt zm_X2_insert) = true := by decide +kernel
def zl_X2_insert_2 : List (Nat × zE) := [(38, .iload_n 3, 1, 0, 0, 0), (39, .iaload, 1, 0, 0, 0), (40, .iload_n 1, 1, 0, 0, 0), (41, .if_icmp .ne 17, 3, 58, 0, 0), (44, .aload_n 0, 1, 0, 0, 0), (45, .getfield 15, 3, 2, 1, 115), (48, .iload_n 3, 1, 0, 0, 0), (49, .iaload, 1, 0, 0, 0), (50, .iload_n 2, 1, 0, 0, 0), (51, .if_icmp .ne 7, 3, 58, 0, 0)]
set_option maxRecDepth 100000 in
theorem zk_X2_insert_2 : zl_X2_insert_2.all (zgoodB zmt zm_X2_insert) = true := by decide +kernel
def zl_X2_insert_3 : List (Nat × zE) := [(54, .iconst 1, 1, 0, 0, 0), (55, .goto 4, 3, 59, 0, 0), (58, .iconst 0, 1, 0, 0, 0), (59, .istore 4, 2, 0, 0, 0), (61, .iload 4, 2, 0, 0, 0), (63, .ifCond .ne 12, 3, 75, 0, 0), (66, .aload_n 0, 1, 0, 0, 0), (67, .getfield 18, 3, 2, 2, 119), (70, .bipush 8, 2, 0, 0, 0), (72, .if_icmp .lt 4, 3, 76, 0, 0)]
set_option maxRecDepth 100000 in
theorem zk_X2_insert_3 : zl_X2_insert_3.all (zgoodB zmt zm_X2_insert) = true := by decide +kernel
def zl_X2_insert_4 : List (Nat × zE) := [(75, .return_, 1, 0, 0, 0), (76, .aload_n 0, 1, 0, 0, 0), (77, .getfield 18, 3, 2, 2, 119), (80, .istore 5, 2, 0, 0, 0), (82, .iload 5, 2, 0, 0, 0), (84, .iload_n 3, 1, 0, 0, 0), (85, .if_icmp .le 41, 3, 126, 0, 0), (88, .aload_n 0, 1, 0, 0, 0), (89, .getfield 9, 3, 2, 0, 111), (92, .iload 5, 2, 0, 0, 0)]
set_option maxRecDepth 100000 in
theorem zk_X2_insert_4 : zl_X2_insert_4.all (zgoodB zmt zm_X2_insert) = true := by decide +kernel
def zl_X2_insert_5 : List (Nat × zE) := [(94, .aload_n 0, 1, 0, 0, 0), (95, .getfield 9, 3, 2, 0, 111), (98, .iload 5, 2, 0, 0, 0), (100, .iconst 1, 1, 0, 0, 0), (101, .isub, 1, 0, 0, 0), (102, .iaload, 1, 0, 0, 0), (103, .iastore, 1, 0, 0, 0), (104, .aload_n 0, 1, 0, 0, 0), (105, .getfield 15, 3, 2, 1, 115), (108, .iload 5, 2, 0, 0, 0)]
set_option maxRecDepth 100000 in
theorem zk_X2_insert_5 : zl_X2_insert_5.all (zgoodB zmt zm_X2_insert) = true := by decide +kernel
def zl_X2_insert_6 : List (Nat × zE) := [(110, .aload_n 0, 1, 0, 0, 0), (111, .getfield 15, 3, 2, 1, 115), (114, .iload 5, 2, 0, 0, 0), (116, .iconst 1, 1, 0, 0, 0), (117, .isub, 1, 0, 0, 0), (118, .iaload, 1, 0, 0, 0), (119, .iastore, 1, 0, 0, 0), (120, .iinc 5 (-1), 3, 0, 0, 0), (123, .goto (-41), 3, 82, 0, 0), (126, .aload_n 0, 1, 0, 0, 0)]
set_option maxRecDepth 100000 in
theorem zk_X2_insert_6 : zl_X2_insert_6.all (zgoodB zmt zm_X2_insert) = true := by decide +kernel
def zl_X2_insert_7 : List (Nat × zE) := [(127, .getfield 9, 3, 2, 0, 111), (130, .iload_n 3, 1, 0, 0, 0), (131, .iload_n 1, 1, 0, 0, 0), (132, .iastore, 1, 0, 0, 0), (133, .aload_n 0, 1, 0, 0, 0), (134, .getfield 15, 3, 2, 1, 115), (137, .iload_n 3, 1, 0, 0, 0), (138, .iload_n 2, 1, 0, 0, 0), (139, .iastore, 1, 0, 0, 0), (140, .aload_n 0, 1, 0, 0, 0)]
set_option maxRecDepth 100000 in
theorem zk_X2_insert_7 : zl_X2_insert_7.all (zgoodB zmt zm_X2_insert) = true := by decide +kernel
def zl_X2_insert_8 : List (Nat × zE) := [(141, .dup, 1, 0, 0, 0), (142, .getfield 18, 3, 2, 2, 119), (145, .iconst 1, 1, 0, 0, 0), (146, .iadd, 1, 0, 0, 0), (147, .putfield 18, 3, 2, 2, 119), (150, .return_, 1, 0, 0, 0)]
set_option maxRecDepth 100000 in
theorem zk_X2_insert_8 : zl_X2_insert_8.all (zgoodB zmt zm_X2_insert) = true := by decide +kernel
def zp_X2_insert : Nat → Option zE := (ztr 75 (ztr 38 (ztr 14 (zlf zl_X2_insert_0) (zlf zl_X2_insert_1)) (ztr 54 (zlf zl_X2_insert_2) (zlf zl_X2_insert_3))) (ztr 110 (ztr 94 (zlf zl_X2_insert_4) (zlf zl_X2_insert_5)) (ztr 127 (zlf zl_X2_insert_6) (ztr 141 (zlf zl_X2_insert_7) (zlf zl_X2_insert_8)))))
theorem za_X2_insert : zall (zgood zmt zm_X2_insert) zp_X2_insert := (zall_tr (zall_tr (zall_tr (zall_lf zl_X2_insert_0 zk_X2_insert_0) (zall_lf zl_X2_insert_1 zk_X2_insert_1)) (zall_tr (zall_lf zl_X2_insert_2 zk_X2_insert_2) (zall_lf zl_X2_insert_3 zk_X2_insert_3))) (zall_tr (zall_tr (zall_lf zl_X2_insert_4 zk_X2_insert_4) (zall_lf zl_X2_insert_5 zk_X2_insert_5)) (zall_tr (zall_lf zl_X2_insert_6 zk_X2_insert_6) (zall_tr (zall_lf zl_X2_insert_7 zk_X2_insert_7) (zall_lf zl_X2_insert_8 zk_X2_insert_8)))))
def zl_X2_isAhead_0 : List (Nat × zE) := [(0, .aload_n 0, 1, 0, 0, 0), (1, .getfield 9, 3, 2, 0, 111), (4, .iload_n 1, 1, 0, 0, 0), (5, .iaload, 1, 0, 0, 0), (6, .iload_n 2, 1, 0, 0, 0), (7, .if_icmp .lt 23, 3, 30, 0, 0), (10, .aload_n 0, 1, 0, 0, 0), (11, .getfield 9, 3, 2, 0, 111), (14, .iload_n 1, 1, 0, 0, 0), (15, .iaload, 1, 0, 0, 0)]
set_option maxRecDepth 100000 in
theorem zk_X2_isAhead_0 : zl_X2_isAhead_0.all (zgoodB zmt zm_X2_isAhead) = true := by decide +kernel
def zl_X2_isAhead_1 : List (Nat × zE) := [(16, .iload_n 2, 1, 0, 0, 0), (17, .if_icmp .ne 17, 3, 34, 0, 0), (20, .aload_n 0, 1, 0, 0, 0), (21, .getfield 15, 3, 2, 1, 115), (24, .iload_n 1, 1, 0, 0, 0), (25, .iaload, 1, 0, 0, 0), (26, .iload_n 3, 1, 0, 0, 0), (27, .if_icmp .ge 7, 3, 34, 0, 0), (30, .iconst 1, 1, 0, 0, 0), (31, .goto 4, 3, 35, 0, 0)]
set_option maxRecDepth 100000 in
theorem zk_X2_isAhead_1 : zl_X2_isAhead_1.all (zgoodB zmt zm_X2_isAhead) = true := by decide +kernel
def zl_X2_isAhead_2 : List (Nat × zE) := [(34, .iconst 0, 1, 0, 0, 0), (35, .ireturn, 1, 0, 0, 0)]
set_option maxRecDepth 100000 in
theorem zk_X2_isAhead_2 : zl_X2_isAhead_2.all (zgoodB zmt zm_X2_isAhead) = true := by decide +kernel
def zp_X2_isAhead : Nat → Option zE := (ztr 16 (zlf zl_X2_isAhead_0) (ztr 34 (zlf zl_X2_isAhead_1) (zlf zl_X2_isAhead_2)))
theorem za_X2_isAhead : zall (zgood zmt zm_X2_isAhead) zp_X2_isAhead := (zall_tr (zall_lf zl_X2_isAhead_0 zk_X2_isAhead_0) (zall_tr (zall_lf zl_X2_isAhead_1 zk_X2_isAhead_1) (zall_lf zl_X2_isAhead_2 zk_X2_isAhead_2)))
def zl_X3_init_0 : List (Nat × zE) := [(0, .aload_n 0, 1, 0, 0, 0), (1, .invokespecial 3, 3, 900, 0, 74), (4, .aload_n 0, 1, 0, 0, 0), (5, .iconst 0, 1, 0, 0, 0), (6, .putfield 9, 3, 3, 0, 75), (9, .aload_n 0, 1, 0, 0, 0), (10, .iconst 1, 1, 0, 0, 0), (11, .putfield 15, 3, 3, 1, 77), (14, .aload_n 0, 1, 0, 0, 0), (15, .iconst 1, 1, 0, 0, 0)]
set_option maxRecDepth 100000 in
theorem zk_X3_init_0 : zl_X3_init_0.all (zgoodB zmt zm_X3_init) = true := by decide +kernel
def zl_X3_init_1 : List (Nat × zE) := [(16, .putfield 18, 3, 3, 2, 79), (19, .aload_n 0, 1, 0, 0, 0), (20, .iconst 0, 1, 0, 0, 0), (21, .putfield 21, 3, 3, 3, 81), (24, .aload_n 0, 1, 0, 0, 0), (25, .bipush 24, 2, 0, 0, 0), (27, .newarray .int, 2, 0, 0, 0), (29, .putfield 24, 3, 35, 4, 83), (32, .aload_n 0, 1, 0, 0, 0), (33, .bipush 24, 2, 0, 0, 0)]
set_option maxRecDepth 100000 in
theorem zk_X3_init_1 : zl_X3_init_1.all (zgoodB zmt zm_X3_init) = true := by decide +kernel
def zl_X3_init_2 : List (Nat × zE) := [(35, .newarray .int, 2, 0, 0, 0), (37, .putfield 28, 3, 35, 5, 85), (40, .aload_n 0, 1, 0, 0, 0), (41, .bipush 24, 2, 0, 0, 0), (43, .newarray .int, 2, 0, 0, 0), (45, .putfield 31, 3, 35, 6, 87), (48, .return_, 1, 0, 0, 0)]
set_option maxRecDepth 100000 in
theorem zk_X3_init_2 : zl_X3_init_2.all (zgoodB zmt zm_X3_init) = true := by decide +kernel
def zp_X3_init : Nat → Option zE := (ztr 16 (zlf zl_X3_init_0) (ztr 35 (zlf zl_X3_init_1) (zlf zl_X3_init_2)))
theorem za_X3_init : zall (zgood zmt zm_X3_init) zp_X3_init := (zall_tr (zall_lf zl_X3_init_0 zk_X3_init_0) (zall_tr (zall_lf zl_X3_init_1 zk_X3_init_1) (zall_lf zl_X3_init_2 zk_X3_init_2)))
def zl_X3_startAnew_0 : List (Nat × zE) := [(0, .aload_n 0, 1, 0, 0, 0), (1, .iload_n 1, 1, 0, 0, 0), (2, .putfield 9, 3, 3, 0, 75), (5, .aload_n 0, 1, 0, 0, 0), (6, .iload_n 2, 1, 0, 0, 0), (7, .putfield 15, 3, 3, 1, 77), (10, .aload_n 0, 1, 0, 0, 0), (11, .iload_n 3, 1, 0, 0, 0), (12, .putfield 18, 3, 3, 2, 79), (15, .aload_n 0, 1, 0, 0, 0)]
set_option maxRecDepth 100000 in
theorem zk_X3_startAnew_0 : zl_X3_startAnew_0.all (zgoodB zmt zm_X3_startAnew) = true := by decide +kernel
def zl_X3_startAnew_1 : List (Nat × zE) := [(16, .iconst 0, 1, 0, 0, 0), (17, .putfield 21, 3, 3, 3, 81), (20, .return_, 1, 0, 0, 0)]
set_option maxRecDepth 100000 in
theorem zk_X3_startAnew_1 : zl_X3_startAnew_1.all (zgoodB zmt zm_X3_startAnew) = true := by decide +kernel
def zp_X3_startAnew : Nat → Option zE := (ztr 16 (zlf zl_X3_startAnew_0) (zlf zl_X3_startAnew_1))
theorem za_X3_startAnew : zall (zgood zmt zm_X3_startAnew) zp_X3_startAnew := (zall_tr (zall_lf zl_X3_startAnew_0 zk_X3_startAnew_0) (zall_lf zl_X3_startAnew_1 zk_X3_startAnew_1))
def zl_X3_copyFrom_0 : List (Nat × zE) := [(0, .aload_n 0, 1, 0, 0, 0), (1, .aload_n 1, 1, 0, 0, 0), (2, .getfield 9, 3, 3, 0, 75), (5, .aload_n 1, 1, 0, 0, 0), (6, .getfield 15, 3, 3, 1, 77), (9, .aload_n 1, 1, 0, 0, 0), (10, .getfield 18, 3, 3, 2, 79), (13, .invokevirtual 34, 3, 20, 4, 814), (16, .aload_n 0, 1, 0, 0, 0), (17, .aload_n 1, 1, 0, 0, 0)]
set_option maxRecDepth 100000 in
theorem zk_X3_copyFrom_0 : zl_X3_copyFrom_0.all (zgoodB zmt zm_X3_copyFrom) = true := by decide +kernel
def zl_X3_copyFrom_1 : List (Nat × zE) := [(18, .getfield 21, 3, 3, 3, 81), (21, .putfield 21, 3, 3, 3, 81), (24, .aload_n 1, 1, 0, 0, 0), (25, .getfield 24, 3, 3, 4, 83), (28, .iconst 0, 1, 0, 0, 0), (29, .aload_n 0, 1, 0, 0, 0), (30, .getfield 24, 3, 3, 4, 83), (33, .iconst 0, 1, 0, 0, 0), (34, .aload_n 0, 1, 0, 0, 0), (35, .getfield 21, 3, 3, 3, 81)]
set_option maxRecDepth 100000 in
theorem zk_X3_copyFrom_1 : zl_X3_copyFrom_1.all (zgoodB zmt zm_X3_copyFrom) = true := by decide +kernel
def zl_X3_copyFrom_2 : List (Nat × zE) := [(38, .invokestatic 38, 3, 901, 0, 408), (41, .aload_n 1, 1, 0, 0, 0), (42, .getfield 28, 3, 3, 5, 85), (45, .iconst 0, 1, 0, 0, 0), (46, .aload_n 0, 1, 0, 0, 0), (47, .getfield 28, 3, 3, 5, 85), (50, .iconst 0, 1, 0, 0, 0), (51, .aload_n 0, 1, 0, 0, 0), (52, .getfield 21, 3, 3, 3, 81), (55, .invokestatic 38, 3, 901, 0, 408)]
set_option maxRecDepth 100000 in
theorem zk_X3_copyFrom_2 : zl_X3_copyFrom_2.all (zgoodB zmt zm_X3_copyFrom) = true := by decide +kernel
def zl_X3_copyFrom_3 : List (Nat × zE) := [(58, .aload_n 1, 1, 0, 0, 0), (59, .getfield 31, 3, 3, 6, 87), (62, .iconst 0, 1, 0, 0, 0), (63, .aload_n 0, 1, 0, 0, 0), (64, .getfield 31, 3, 3, 6, 87), (67, .iconst 0, 1, 0, 0, 0), (68, .aload_n 0, 1, 0, 0, 0), (69, .getfield 21, 3, 3, 3, 81), (72, .invokestatic 38, 3, 901, 0, 408), (75, .return_, 1, 0, 0, 0)]
set_option maxRecDepth 100000 in
theorem zk_X3_copyFrom_3 : zl_X3_copyFrom_3.all (zgoodB zmt zm_X3_copyFrom) = true := by decide +kernel
def zp_X3_copyFrom : Nat → Option zE := (ztr 38 (ztr 18 (zlf zl_X3_copyFrom_0) (zlf zl_X3_copyFrom_1)) (ztr 58 (zlf zl_X3_copyFrom_2) (zlf zl_X3_copyFrom_3)))
theorem za_X3_copyFrom : zall (zgood zmt zm_X3_copyFrom) zp_X3_copyFrom := (zall_tr (zall_tr (zall_lf zl_X3_copyFrom_0 zk_X3_copyFrom_0) (zall_lf zl_X3_copyFrom_1 zk_X3_copyFrom_1)) (zall_tr (zall_lf zl_X3_copyFrom_2 zk_X3_copyFrom_2) (zall_lf zl_X3_copyFrom_3 zk_X3_copyFrom_3)))
end

section
-- ===== PART A: goes FIRST, ahead of the names: the tables' words, and 'selects' of the private methods out of them =====
/-- a private method of a class that the tables say can be made, by its rows of tables_1 -/
def lw_okq (q : MethodName × Nat) : Prop := (q.1.cls ≠ "java/lang/invoke/MethodHandle" ∧ q.1.cls ≠ "java/lang/invoke/VarHandle") ∧ Cond.instantiable q.1.cls q.2 ∈ tables_1 ∧ Cond.privateMethod q.1 ∈ tables_1 ∧ Cond.instanceMethod q.1 ∈ tables_1
theorem lw_p0 : lw_okq (⟨"CycleHouse", "fillRings", "()I"⟩, 8) := ⟨⟨by decide +kernel, by decide +kernel⟩, List.mem_of_getElem? (i := 20) (by decide +kernel), List.mem_of_getElem? (i := 224) (by decide +kernel), List.mem_of_getElem? (i := 225) (by decide +kernel)⟩
theorem lw_p1 : lw_okq (⟨"CycleHouse$Groups", "merge", "(IIJ)V"⟩, 4) := ⟨⟨by decide +kernel, by decide +kernel⟩, List.mem_of_getElem? (i := 94) (by decide +kernel), List.mem_of_getElem? (i := 240) (by decide +kernel), List.mem_of_getElem? (i := 241) (by decide +kernel)⟩
theorem lw_p2 : lw_okq (⟨"java/lang/Throwable", "fillInStackTrace", "(I)Ljava/lang/Throwable;"⟩, 6) := ⟨⟨by decide +kernel, by decide +kernel⟩, List.mem_of_getElem? (i := 322) (by decide +kernel), List.mem_of_getElem? (i := 320) (by decide +kernel), List.mem_of_getElem? (i := 321) (by decide +kernel)⟩
theorem lw_p3 : lw_okq (⟨"CycleHouse", "joinWhole", "()I"⟩, 8) := ⟨⟨by decide +kernel, by decide +kernel⟩, List.mem_of_getElem? (i := 20) (by decide +kernel), List.mem_of_getElem? (i := 387) (by decide +kernel), List.mem_of_getElem? (i := 388) (by decide +kernel)⟩
theorem lw_p4 : lw_okq (⟨"CycleHouse", "joinSet", "(J)I"⟩, 8) := ⟨⟨by decide +kernel, by decide +kernel⟩, List.mem_of_getElem? (i := 20) (by decide +kernel), List.mem_of_getElem? (i := 391) (by decide +kernel), List.mem_of_getElem? (i := 392) (by decide +kernel)⟩
theorem lw_p5 : lw_okq (⟨"CycleHouse", "checkEdges", "(J)V"⟩, 8) := ⟨⟨by decide +kernel, by decide +kernel⟩, List.mem_of_getElem? (i := 20) (by decide +kernel), List.mem_of_getElem? (i := 421) (by decide +kernel), List.mem_of_getElem? (i := 422) (by decide +kernel)⟩
theorem lw_p6 : lw_okq (⟨"CycleHouse$ForestCount", "determinant", "(I)J"⟩, 1) := ⟨⟨by decide +kernel, by decide +kernel⟩, List.mem_of_getElem? (i := 157) (by decide +kernel), List.mem_of_getElem? (i := 431) (by decide +kernel), List.mem_of_getElem? (i := 432) (by decide +kernel)⟩
theorem lw_p7 : lw_okq (⟨"CycleHouse$ForestCount", "eliminate", "(IIJ)V"⟩, 1) := ⟨⟨by decide +kernel, by decide +kernel⟩, List.mem_of_getElem? (i := 157) (by decide +kernel), List.mem_of_getElem? (i := 435) (by decide +kernel), List.mem_of_getElem? (i := 436) (by decide +kernel)⟩
theorem lw_p8 : lw_okq (⟨"CycleHouse", "weightOfLightestJoins", "()J"⟩, 8) := ⟨⟨by decide +kernel, by decide +kernel⟩, List.mem_of_getElem? (i := 20) (by decide +kernel), List.mem_of_getElem? (i := 452) (by decide +kernel), List.mem_of_getElem? (i := 453) (by decide +kernel)⟩
theorem lw_p9 : lw_okq (⟨"CycleHouse", "lightestJoin", "()I"⟩, 8) := ⟨⟨by decide +kernel, by decide +kernel⟩, List.mem_of_getElem? (i := 20) (by decide +kernel), List.mem_of_getElem? (i := 456) (by decide +kernel), List.mem_of_getElem? (i := 457) (by decide +kernel)⟩
theorem lw_p10 : lw_okq (⟨"CycleHouse$Ways", "shortenAll", "(LCycleHouse$Graph;I)Z"⟩, 2) := ⟨⟨by decide +kernel, by decide +kernel⟩, List.mem_of_getElem? (i := 115) (by decide +kernel), List.mem_of_getElem? (i := 500) (by decide +kernel), List.mem_of_getElem? (i := 501) (by decide +kernel)⟩
theorem lw_p11 : lw_okq (⟨"CycleHouse$Ways", "shorten", "(IIII)Z"⟩, 2) := ⟨⟨by decide +kernel, by decide +kernel⟩, List.mem_of_getElem? (i := 115) (by decide +kernel), List.mem_of_getElem? (i := 504) (by decide +kernel), List.mem_of_getElem? (i := 505) (by decide +kernel)⟩
theorem lw_p12 : lw_okq (⟨"CycleHouse$LightBasis", "gatherAll", "(LCycleHouse$Graph;LCycleHouse$Ways;)V"⟩, 6) := ⟨⟨by decide +kernel, by decide +kernel⟩, List.mem_of_getElem? (i := 131) (by decide +kernel), List.mem_of_getElem? (i := 524) (by decide +kernel), List.mem_of_getElem? (i := 525) (by decide +kernel)⟩
theorem lw_p13 : lw_okq (⟨"CycleHouse$LightBasis", "gather", "(LCycleHouse$Graph;LCycleHouse$Ways;I)V"⟩, 6) := ⟨⟨by decide +kernel, by decide +kernel⟩, List.mem_of_getElem? (i := 131) (by decide +kernel), List.mem_of_getElem? (i := 529) (by decide +kernel), List.mem_of_getElem? (i := 530) (by decide +kernel)⟩
theorem lw_p14 : lw_okq (⟨"CycleHouse$LightBasis", "lightestLeft", "()I"⟩, 6) := ⟨⟨by decide +kernel, by decide +kernel⟩, List.mem_of_getElem? (i := 131) (by decide +kernel), List.mem_of_getElem? (i := 534) (by decide +kernel), List.mem_of_getElem? (i := 535) (by decide +kernel)⟩
theorem lw_p15 : lw_okq (⟨"CycleHouse$LightBasis", "strike", "(J)V"⟩, 6) := ⟨⟨by decide +kernel, by decide +kernel⟩, List.mem_of_getElem? (i := 131) (by decide +kernel), List.mem_of_getElem? (i := 538) (by decide +kernel), List.mem_of_getElem? (i := 539) (by decide +kernel)⟩
def lw_privs_1 : List (MethodName × Nat) := [(⟨"CycleHouse", "fillRings", "()I"⟩, 8), (⟨"CycleHouse$Groups", "merge", "(IIJ)V"⟩, 4), (⟨"java/lang/Throwable", "fillInStackTrace", "(I)Ljava/lang/Throwable;"⟩, 6), (⟨"CycleHouse", "joinWhole", "()I"⟩, 8), (⟨"CycleHouse", "joinSet", "(J)I"⟩, 8), (⟨"CycleHouse", "checkEdges", "(J)V"⟩, 8), (⟨"CycleHouse$ForestCount", "determinant", "(I)J"⟩, 1), (⟨"CycleHouse$ForestCount", "eliminate", "(IIJ)V"⟩, 1), (⟨"CycleHouse", "weightOfLightestJoins", "()J"⟩, 8), (⟨"CycleHouse", "lightestJoin", "()I"⟩, 8), (⟨"CycleHouse$Ways", "shortenAll", "(LCycleHouse$Graph;I)Z"⟩, 2), (⟨"CycleHouse$Ways", "shorten", "(IIII)Z"⟩, 2), (⟨"CycleHouse$LightBasis", "gatherAll", "(LCycleHouse$Graph;LCycleHouse$Ways;)V"⟩, 6), (⟨"CycleHouse$LightBasis", "gather", "(LCycleHouse$Graph;LCycleHouse$Ways;I)V"⟩, 6), (⟨"CycleHouse$LightBasis", "lightestLeft", "()I"⟩, 6), (⟨"CycleHouse$LightBasis", "strike", "(J)V"⟩, 6)]
theorem lw_r1 : ∀ q ∈ lw_privs_1, lw_okq q := List.forall_mem_cons.mpr ⟨lw_p0, List.forall_mem_cons.mpr ⟨lw_p1, List.forall_mem_cons.mpr ⟨lw_p2, List.forall_mem_cons.mpr ⟨lw_p3, List.forall_mem_cons.mpr ⟨lw_p4, List.forall_mem_cons.mpr ⟨lw_p5, List.forall_mem_cons.mpr ⟨lw_p6, List.forall_mem_cons.mpr ⟨lw_p7, List.forall_mem_cons.mpr ⟨lw_p8, List.forall_mem_cons.mpr ⟨lw_p9, List.forall_mem_cons.mpr ⟨lw_p10, List.forall_mem_cons.mpr ⟨lw_p11, List.forall_mem_cons.mpr ⟨lw_p12, List.forall_mem_cons.mpr ⟨lw_p13, List.forall_mem_cons.mpr ⟨lw_p14, List.forall_mem_cons.mpr ⟨lw_p15, fun _ h => absurd h List.not_mem_nil⟩⟩⟩⟩⟩⟩⟩⟩⟩⟩⟩⟩⟩⟩⟩⟩
theorem lw_p16 : lw_okq (⟨"CycleHouse", "checkListed", "(J)V"⟩, 8) := ⟨⟨by decide +kernel, by decide +kernel⟩, List.mem_of_getElem? (i := 20) (by decide +kernel), List.mem_of_getElem? (i := 563) (by decide +kernel), List.mem_of_getElem? (i := 564) (by decide +kernel)⟩
theorem lw_p17 : lw_okq (⟨"CycleHouse", "countGroups", "()I"⟩, 8) := ⟨⟨by decide +kernel, by decide +kernel⟩, List.mem_of_getElem? (i := 20) (by decide +kernel), List.mem_of_getElem? (i := 594) (by decide +kernel), List.mem_of_getElem? (i := 595) (by decide +kernel)⟩
theorem lw_p18 : lw_okq (⟨"CycleHouse", "countEdgesInNoCycle", "()I"⟩, 8) := ⟨⟨by decide +kernel, by decide +kernel⟩, List.mem_of_getElem? (i := 20) (by decide +kernel), List.mem_of_getElem? (i := 598) (by decide +kernel), List.mem_of_getElem? (i := 599) (by decide +kernel)⟩
theorem lw_p19 : lw_okq (⟨"CycleHouse", "hasOddCycle", "()Z"⟩, 8) := ⟨⟨by decide +kernel, by decide +kernel⟩, List.mem_of_getElem? (i := 20) (by decide +kernel), List.mem_of_getElem? (i := 603) (by decide +kernel), List.mem_of_getElem? (i := 604) (by decide +kernel)⟩
theorem lw_p20 : lw_okq (⟨"CycleHouse", "countCuttingVertices", "()I"⟩, 8) := ⟨⟨by decide +kernel, by decide +kernel⟩, List.mem_of_getElem? (i := 20) (by decide +kernel), List.mem_of_getElem? (i := 607) (by decide +kernel), List.mem_of_getElem? (i := 608) (by decide +kernel)⟩
theorem lw_p21 : lw_okq (⟨"CycleHouseModel", "throwing", "(ZZ)Z"⟩, 20) := ⟨⟨by decide +kernel, by decide +kernel⟩, List.mem_of_getElem? (i := 616) (by decide +kernel), List.mem_of_getElem? (i := 692) (by decide +kernel), List.mem_of_getElem? (i := 693) (by decide +kernel)⟩
theorem lw_p22 : lw_okq (⟨"CycleHouseModel", "isVertex", "(I)Z"⟩, 20) := ⟨⟨by decide +kernel, by decide +kernel⟩, List.mem_of_getElem? (i := 616) (by decide +kernel), List.mem_of_getElem? (i := 700) (by decide +kernel), List.mem_of_getElem? (i := 701) (by decide +kernel)⟩
theorem lw_p23 : lw_okq (⟨"CycleHouseModel", "dimension", "()I"⟩, 20) := ⟨⟨by decide +kernel, by decide +kernel⟩, List.mem_of_getElem? (i := 616) (by decide +kernel), List.mem_of_getElem? (i := 705) (by decide +kernel), List.mem_of_getElem? (i := 706) (by decide +kernel)⟩
theorem lw_p24 : lw_okq (⟨"CycleHouseModel", "groups", "()I"⟩, 20) := ⟨⟨by decide +kernel, by decide +kernel⟩, List.mem_of_getElem? (i := 616) (by decide +kernel), List.mem_of_getElem? (i := 709) (by decide +kernel), List.mem_of_getElem? (i := 710) (by decide +kernel)⟩
theorem lw_p25 : lw_okq (⟨"CycleHouseModel", "beginGroups", "()V"⟩, 20) := ⟨⟨by decide +kernel, by decide +kernel⟩, List.mem_of_getElem? (i := 616) (by decide +kernel), List.mem_of_getElem? (i := 713) (by decide +kernel), List.mem_of_getElem? (i := 714) (by decide +kernel)⟩
theorem lw_p26 : lw_okq (⟨"CycleHouseModel", "joins", "(I)Z"⟩, 20) := ⟨⟨by decide +kernel, by decide +kernel⟩, List.mem_of_getElem? (i := 616) (by decide +kernel), List.mem_of_getElem? (i := 717) (by decide +kernel), List.mem_of_getElem? (i := 718) (by decide +kernel)⟩
theorem lw_p27 : lw_okq (⟨"CycleHouseModel", "isSet", "(J)Z"⟩, 20) := ⟨⟨by decide +kernel, by decide +kernel⟩, List.mem_of_getElem? (i := 616) (by decide +kernel), List.mem_of_getElem? (i := 729) (by decide +kernel), List.mem_of_getElem? (i := 730) (by decide +kernel)⟩
theorem lw_p28 : lw_okq (⟨"CycleHouseModel", "beginsWith", "(J)Z"⟩, 20) := ⟨⟨by decide +kernel, by decide +kernel⟩, List.mem_of_getElem? (i := 616) (by decide +kernel), List.mem_of_getElem? (i := 733) (by decide +kernel), List.mem_of_getElem? (i := 734) (by decide +kernel)⟩
theorem lw_p29 : lw_okq (⟨"CycleHouseModel", "isFirst", "(I)Z"⟩, 20) := ⟨⟨by decide +kernel, by decide +kernel⟩, List.mem_of_getElem? (i := 616) (by decide +kernel), List.mem_of_getElem? (i := 737) (by decide +kernel), List.mem_of_getElem? (i := 738) (by decide +kernel)⟩
theorem lw_p30 : lw_okq (⟨"CycleHouseModel", "hang", "(II)Z"⟩, 20) := ⟨⟨by decide +kernel, by decide +kernel⟩, List.mem_of_getElem? (i := 616) (by decide +kernel), List.mem_of_getElem? (i := 741) (by decide +kernel), List.mem_of_getElem? (i := 742) (by decide +kernel)⟩
theorem lw_p31 : lw_okq (⟨"CycleHouseModel", "lay", "(II)V"⟩, 20) := ⟨⟨by decide +kernel, by decide +kernel⟩, List.mem_of_getElem? (i := 616) (by decide +kernel), List.mem_of_getElem? (i := 745) (by decide +kernel), List.mem_of_getElem? (i := 746) (by decide +kernel)⟩
def lw_privs_2 : List (MethodName × Nat) := [(⟨"CycleHouse", "checkListed", "(J)V"⟩, 8), (⟨"CycleHouse", "countGroups", "()I"⟩, 8), (⟨"CycleHouse", "countEdgesInNoCycle", "()I"⟩, 8), (⟨"CycleHouse", "hasOddCycle", "()Z"⟩, 8), (⟨"CycleHouse", "countCuttingVertices", "()I"⟩, 8), (⟨"CycleHouseModel", "throwing", "(ZZ)Z"⟩, 20), (⟨"CycleHouseModel", "isVertex", "(I)Z"⟩, 20), (⟨"CycleHouseModel", "dimension", "()I"⟩, 20), (⟨"CycleHouseModel", "groups", "()I"⟩, 20), (⟨"CycleHouseModel", "beginGroups", "()V"⟩, 20), (⟨"CycleHouseModel", "joins", "(I)Z"⟩, 20), (⟨"CycleHouseModel", "isSet", "(J)Z"⟩, 20), (⟨"CycleHouseModel", "beginsWith", "(J)Z"⟩, 20), (⟨"CycleHouseModel", "isFirst", "(I)Z"⟩, 20), (⟨"CycleHouseModel", "hang", "(II)Z"⟩, 20), (⟨"CycleHouseModel", "lay", "(II)V"⟩, 20)]
theorem lw_r2 : ∀ q ∈ lw_privs_2, lw_okq q := List.forall_mem_cons.mpr ⟨lw_p16, List.forall_mem_cons.mpr ⟨lw_p17, List.forall_mem_cons.mpr ⟨lw_p18, List.forall_mem_cons.mpr ⟨lw_p19, List.forall_mem_cons.mpr ⟨lw_p20, List.forall_mem_cons.mpr ⟨lw_p21, List.forall_mem_cons.mpr ⟨lw_p22, List.forall_mem_cons.mpr ⟨lw_p23, List.forall_mem_cons.mpr ⟨lw_p24, List.forall_mem_cons.mpr ⟨lw_p25, List.forall_mem_cons.mpr ⟨lw_p26, List.forall_mem_cons.mpr ⟨lw_p27, List.forall_mem_cons.mpr ⟨lw_p28, List.forall_mem_cons.mpr ⟨lw_p29, List.forall_mem_cons.mpr ⟨lw_p30, List.forall_mem_cons.mpr ⟨lw_p31, fun _ h => absurd h List.not_mem_nil⟩⟩⟩⟩⟩⟩⟩⟩⟩⟩⟩⟩⟩⟩⟩⟩
theorem lw_p32 : lw_okq (⟨"CycleHouseModel", "determinant", "(I)J"⟩, 20) := ⟨⟨by decide +kernel, by decide +kernel⟩, List.mem_of_getElem? (i := 616) (by decide +kernel), List.mem_of_getElem? (i := 749) (by decide +kernel), List.mem_of_getElem? (i := 750) (by decide +kernel)⟩
theorem lw_p33 : lw_okq (⟨"CycleHouseModel", "weightOf", "(J)J"⟩, 20) := ⟨⟨by decide +kernel, by decide +kernel⟩, List.mem_of_getElem? (i := 616) (by decide +kernel), List.mem_of_getElem? (i := 758) (by decide +kernel), List.mem_of_getElem? (i := 759) (by decide +kernel)⟩
theorem lw_p34 : lw_okq (⟨"CycleHouseModel", "isEven", "(J)Z"⟩, 20) := ⟨⟨by decide +kernel, by decide +kernel⟩, List.mem_of_getElem? (i := 616) (by decide +kernel), List.mem_of_getElem? (i := 766) (by decide +kernel), List.mem_of_getElem? (i := 767) (by decide +kernel)⟩
theorem lw_p35 : lw_okq (⟨"CycleHouseModel", "endsAt", "(JI)I"⟩, 20) := ⟨⟨by decide +kernel, by decide +kernel⟩, List.mem_of_getElem? (i := 616) (by decide +kernel), List.mem_of_getElem? (i := 770) (by decide +kernel), List.mem_of_getElem? (i := 771) (by decide +kernel)⟩
theorem lw_p36 : lw_okq (⟨"CycleHouseModel", "isRing", "(J)Z"⟩, 20) := ⟨⟨by decide +kernel, by decide +kernel⟩, List.mem_of_getElem? (i := 616) (by decide +kernel), List.mem_of_getElem? (i := 774) (by decide +kernel), List.mem_of_getElem? (i := 775) (by decide +kernel)⟩
theorem lw_p37 : lw_okq (⟨"CycleHouseModel", "spread", "()I"⟩, 20) := ⟨⟨by decide +kernel, by decide +kernel⟩, List.mem_of_getElem? (i := 616) (by decide +kernel), List.mem_of_getElem? (i := 782) (by decide +kernel), List.mem_of_getElem? (i := 783) (by decide +kernel)⟩
theorem lw_p38 : lw_okq (⟨"CycleHouseModel", "rest", "(J)J"⟩, 20) := ⟨⟨by decide +kernel, by decide +kernel⟩, List.mem_of_getElem? (i := 616) (by decide +kernel), List.mem_of_getElem? (i := 790) (by decide +kernel), List.mem_of_getElem? (i := 791) (by decide +kernel)⟩
theorem lw_p39 : lw_okq (⟨"CycleHouseModel", "take", "(J)Z"⟩, 20) := ⟨⟨by decide +kernel, by decide +kernel⟩, List.mem_of_getElem? (i := 616) (by decide +kernel), List.mem_of_getElem? (i := 794) (by decide +kernel), List.mem_of_getElem? (i := 795) (by decide +kernel)⟩
theorem lw_p40 : lw_okq (⟨"CycleHouseModel", "numberOf", "(J)I"⟩, 20) := ⟨⟨by decide +kernel, by decide +kernel⟩, List.mem_of_getElem? (i := 616) (by decide +kernel), List.mem_of_getElem? (i := 802) (by decide +kernel), List.mem_of_getElem? (i := 803) (by decide +kernel)⟩
theorem lw_p41 : lw_okq (⟨"CycleHouseModel", "takeList", "()V"⟩, 20) := ⟨⟨by decide +kernel, by decide +kernel⟩, List.mem_of_getElem? (i := 616) (by decide +kernel), List.mem_of_getElem? (i := 826) (by decide +kernel), List.mem_of_getElem? (i := 827) (by decide +kernel)⟩
theorem lw_p42 : lw_okq (⟨"CycleHouseModel", "alone", "()I"⟩, 20) := ⟨⟨by decide +kernel, by decide +kernel⟩, List.mem_of_getElem? (i := 616) (by decide +kernel), List.mem_of_getElem? (i := 834) (by decide +kernel), List.mem_of_getElem? (i := 835) (by decide +kernel)⟩
theorem lw_p43 : lw_okq (⟨"CycleHouseModel", "areEven", "()Z"⟩, 20) := ⟨⟨by decide +kernel, by decide +kernel⟩, List.mem_of_getElem? (i := 616) (by decide +kernel), List.mem_of_getElem? (i := 838) (by decide +kernel), List.mem_of_getElem? (i := 839) (by decide +kernel)⟩
theorem lw_p44 : lw_okq (⟨"CycleHouseModel", "rank", "()I"⟩, 20) := ⟨⟨by decide +kernel, by decide +kernel⟩, List.mem_of_getElem? (i := 616) (by decide +kernel), List.mem_of_getElem? (i := 842) (by decide +kernel), List.mem_of_getElem? (i := 843) (by decide +kernel)⟩
theorem lw_p45 : lw_okq (⟨"CycleHouseModel", "parting", "()I"⟩, 20) := ⟨⟨by decide +kernel, by decide +kernel⟩, List.mem_of_getElem? (i := 616) (by decide +kernel), List.mem_of_getElem? (i := 846) (by decide +kernel), List.mem_of_getElem? (i := 847) (by decide +kernel)⟩
def lw_privs_3 : List (MethodName × Nat) := [(⟨"CycleHouseModel", "determinant", "(I)J"⟩, 20), (⟨"CycleHouseModel", "weightOf", "(J)J"⟩, 20), (⟨"CycleHouseModel", "isEven", "(J)Z"⟩, 20), (⟨"CycleHouseModel", "endsAt", "(JI)I"⟩, 20), (⟨"CycleHouseModel", "isRing", "(J)Z"⟩, 20), (⟨"CycleHouseModel", "spread", "()I"⟩, 20), (⟨"CycleHouseModel", "rest", "(J)J"⟩, 20), (⟨"CycleHouseModel", "take", "(J)Z"⟩, 20), (⟨"CycleHouseModel", "numberOf", "(J)I"⟩, 20), (⟨"CycleHouseModel", "takeList", "()V"⟩, 20), (⟨"CycleHouseModel", "alone", "()I"⟩, 20), (⟨"CycleHouseModel", "areEven", "()Z"⟩, 20), (⟨"CycleHouseModel", "rank", "()I"⟩, 20), (⟨"CycleHouseModel", "parting", "()I"⟩, 20)]
theorem lw_r3 : ∀ q ∈ lw_privs_3, lw_okq q := List.forall_mem_cons.mpr ⟨lw_p32, List.forall_mem_cons.mpr ⟨lw_p33, List.forall_mem_cons.mpr ⟨lw_p34, List.forall_mem_cons.mpr ⟨lw_p35, List.forall_mem_cons.mpr ⟨lw_p36, List.forall_mem_cons.mpr ⟨lw_p37, List.forall_mem_cons.mpr ⟨lw_p38, List.forall_mem_cons.mpr ⟨lw_p39, List.forall_mem_cons.mpr ⟨lw_p40, List.forall_mem_cons.mpr ⟨lw_p41, List.forall_mem_cons.mpr ⟨lw_p42, List.forall_mem_cons.mpr ⟨lw_p43, List.forall_mem_cons.mpr ⟨lw_p44, List.forall_mem_cons.mpr ⟨lw_p45, fun _ h => absurd h List.not_mem_nil⟩⟩⟩⟩⟩⟩⟩⟩⟩⟩⟩⟩⟩⟩
def lw_privs : List (MethodName × Nat) := lw_privs_1 ++ (lw_privs_2 ++ (lw_privs_3))
def lw_tbl : List Cond := k2_sels lw_privs ++ tables_1
theorem lw_privs_ok : ∀ q ∈ lw_privs, lw_okq q := by
  show ∀ q ∈ lw_privs_1 ++ (lw_privs_2 ++ (lw_privs_3)), lw_okq q
  exact List.forall_mem_append.mpr ⟨lw_r1, List.forall_mem_append.mpr ⟨lw_r2, lw_r3⟩⟩
-- ===== end of PART A; then your names; then what follows =====
end
section
/-! ===== BEGIN words of one list among another's, by their places ===== -/
theorem goodIn_r {big : List Cond} (ws : List Cond) (ps : List Nat) (hp : ws = ps.filterMap (fun i => big[i]?)) (h : ws.all goodWord = true) : GoodIn big ws := by
  intro w hw
  have h1 := List.all_eq_true.mp h w hw
  rw [hp] at hw
  obtain ⟨i, -, hi⟩ := List.mem_filterMap.mp hw
  have hm : w ∈ big := by first | exact List.mem_of_getElem? hi | exact List.getElem?_mem hi
  exact ⟨hm, good_of_word h1⟩
theorem goodIn_app {big a b : List Cond} (ha : GoodIn big a) (hb : GoodIn big b) : GoodIn big (a ++ b) := fun w h => (List.mem_append.mp h).elim (ha w) (hb w)
theorem goodIn_ca {big a b : List Cond} {c : Cond} (ha : GoodIn big (c :: a)) (hb : GoodIn big b) : GoodIn big (c :: (a ++ b)) := fun w h => (List.mem_cons.mp h).elim (fun e => ha w (List.mem_cons.mpr (Or.inl e))) (fun h => (List.mem_append.mp h).elim (fun h => ha w (List.mem_cons.mpr (Or.inr h))) (hb w))
theorem goodIn_sub {big ws : List Cond} (hm : ∀ w ∈ ws, w ∈ big) (h : ws.all goodWord = true) : GoodIn big ws := fun w hw => ⟨hm w hw, good_of_word (List.all_eq_true.mp h w hw)⟩
/-! ===== END ===== -/
end
section
/-! ===== BEGIN printed: names, fields, word lists, decode rows ===== -/
def RX0 : String := "CycleHouse$CycleCount"
def TX0 : u_T := fun k => match k with
  | _ => ("CycleHouse$CycleCount", "between", "[[I", true)
def tyX0 : Nat → FieldType := fun k => match k with
  | _ => .array (.array .int)
abbrev wsX00 : List Cond := u_ws RX0 TX0 1
theorem nmX0 : ∀ a, a < 1 → ∀ b, b < 1 → a ≠ b → (TX0 a).2.1 ≠ (TX0 b).2.1 := by decide +kernel
theorem tyX0_ok : ∀ k, k < 1 → parseFieldDescriptor (TX0 k).2.2.1 = some (tyX0 k) := by decide +kernel
abbrev cX0_init : ByteArray := prog_2_method_1_code
def yX0_init : MethodName := ⟨RX0, "<init>", "()V"⟩
abbrev cX0_count : ByteArray := prog_2_method_2_code
def yX0_count : MethodName := ⟨RX0, "count", "(LCycleHouse$Graph;)I"⟩
abbrev cX0_paths : ByteArray := prog_2_method_3_code
def yX0_paths : MethodName := ⟨RX0, "paths", "([[IIIII)I"⟩
def RX1 : String := "CycleHouse$ForestCount"
def TX1 : u_T := fun k => match k with
  | _ => ("CycleHouse$ForestCount", "table", "[[J", true)
def tyX1 : Nat → FieldType := fun k => match k with
  | _ => .array (.array .long)
abbrev wsX10 : List Cond := u_ws RX1 TX1 1
theorem nmX1 : ∀ a, a < 1 → ∀ b, b < 1 → a ≠ b → (TX1 a).2.1 ≠ (TX1 b).2.1 := by decide +kernel
theorem tyX1_ok : ∀ k, k < 1 → parseFieldDescriptor (TX1 k).2.2.1 = some (tyX1 k) := by decide +kernel
abbrev cX1_init : ByteArray := prog_3_method_1_code
def yX1_init : MethodName := ⟨RX1, "<init>", "()V"⟩
abbrev cX1_count : ByteArray := prog_3_method_2_code
def yX1_count : MethodName := ⟨RX1, "count", "(LCycleHouse$Graph;LCycleHouse$Groups;)J"⟩
abbrev cX1_determinant : ByteArray := prog_3_method_3_code
def yX1_determinant : MethodName := ⟨RX1, "determinant", "(I)J"⟩
abbrev cX1_eliminate : ByteArray := prog_3_method_4_code
def yX1_eliminate : MethodName := ⟨RX1, "eliminate", "(IIJ)V"⟩
def RX2 : String := "CycleHouse$Graph"
def TX2 : u_T := fun k => match k with
  | 0 => ("CycleHouse$Graph", "vertices", "I", false)
  | 1 => ("CycleHouse$Graph", "edges", "I", false)
  | 2 => ("CycleHouse$Graph", "from", "[I", true)
  | 3 => ("CycleHouse$Graph", "to", "[I", true)
  | _ => ("CycleHouse$Graph", "weight", "[I", true)
def tyX2 : Nat → FieldType := fun k => match k with
  | 0 => .int
  | 1 => .int
  | 2 => .array .int
  | 3 => .array .int
  | _ => .array .int
abbrev wsX20 : List Cond := u_ws RX2 TX2 5
theorem nmX2 : ∀ a, a < 5 → ∀ b, b < 5 → a ≠ b → (TX2 a).2.1 ≠ (TX2 b).2.1 := by decide +kernel
theorem tyX2_ok : ∀ k, k < 5 → parseFieldDescriptor (TX2 k).2.2.1 = some (tyX2 k) := by decide +kernel
abbrev cX2_init : ByteArray := prog_4_method_1_code
def yX2_init : MethodName := ⟨RX2, "<init>", "()V"⟩
abbrev cX2_begin : ByteArray := prog_4_method_2_code
def yX2_begin : MethodName := ⟨RX2, "begin", "(I)V"⟩
abbrev cX2_hasVertex : ByteArray := prog_4_method_3_code
def yX2_hasVertex : MethodName := ⟨RX2, "hasVertex", "(I)Z"⟩
abbrev cX2_append : ByteArray := prog_4_method_4_code
def yX2_append : MethodName := ⟨RX2, "append", "(III)I"⟩
abbrev cX2_removeLast : ByteArray := prog_4_method_5_code
def yX2_removeLast : MethodName := ⟨RX2, "removeLast", "()I"⟩
abbrev cX2_isEven : ByteArray := prog_4_method_6_code
def yX2_isEven : MethodName := ⟨RX2, "isEven", "(J)Z"⟩
abbrev cX2_weigh : ByteArray := prog_4_method_7_code
def yX2_weigh : MethodName := ⟨RX2, "weigh", "(J)J"⟩
abbrev cX2_gain : ByteArray := prog_4_method_8_code
def yX2_gain : MethodName := ⟨RX2, "gain", "(JJ)J"⟩
abbrev cX2_edgesApartFrom : ByteArray := prog_4_method_9_code
def yX2_edgesApartFrom : MethodName := ⟨RX2, "edgesApartFrom", "(I)J"⟩
def RX3 : String := "CycleHouse$Groups"
def TX3 : u_T := fun k => match k with
  | 0 => ("CycleHouse$Groups", "vertices", "I", false)
  | 1 => ("CycleHouse$Groups", "count", "I", false)
  | 2 => ("CycleHouse$Groups", "name", "[I", true)
  | _ => ("CycleHouse$Groups", "way", "[J", true)
def tyX3 : Nat → FieldType := fun k => match k with
  | 0 => .int
  | 1 => .int
  | 2 => .array .int
  | _ => .array .long
abbrev wsX30 : List Cond := u_ws RX3 TX3 4
theorem nmX3 : ∀ a, a < 4 → ∀ b, b < 4 → a ≠ b → (TX3 a).2.1 ≠ (TX3 b).2.1 := by decide +kernel
theorem tyX3_ok : ∀ k, k < 4 → parseFieldDescriptor (TX3 k).2.2.1 = some (tyX3 k) := by decide +kernel
abbrev cX3_init : ByteArray := prog_5_method_1_code
def yX3_init : MethodName := ⟨RX3, "<init>", "()V"⟩
abbrev cX3_part : ByteArray := prog_5_method_2_code
def yX3_part : MethodName := ⟨RX3, "part", "(I)V"⟩
abbrev cX3_together : ByteArray := prog_5_method_3_code
def yX3_together : MethodName := ⟨RX3, "together", "(II)Z"⟩
abbrev cX3_join : ByteArray := prog_5_method_4_code
def yX3_join : MethodName := ⟨RX3, "join", "(LCycleHouse$Graph;I)J"⟩
abbrev cX3_merge : ByteArray := prog_5_method_5_code
def yX3_merge : MethodName := ⟨RX3, "merge", "(IIJ)V"⟩
def RX4 : String := "CycleHouse$LightBasis"
def TX4 : u_T := fun k => match k with
  | 0 => ("CycleHouse$LightBasis", "size", "I", false)
  | 1 => ("CycleHouse$LightBasis", "ring", "[J", true)
  | 2 => ("CycleHouse$LightBasis", "weight", "[J", true)
  | 3 => ("CycleHouse$LightBasis", "candidates", "I", false)
  | 4 => ("CycleHouse$LightBasis", "left", "[J", true)
  | _ => ("CycleHouse$LightBasis", "leftWeight", "[J", true)
def tyX4 : Nat → FieldType := fun k => match k with
  | 0 => .int
  | 1 => .array .long
  | 2 => .array .long
  | 3 => .int
  | 4 => .array .long
  | _ => .array .long
abbrev wsX40 : List Cond := u_ws RX4 TX4 6
theorem nmX4 : ∀ a, a < 6 → ∀ b, b < 6 → a ≠ b → (TX4 a).2.1 ≠ (TX4 b).2.1 := by decide +kernel
theorem tyX4_ok : ∀ k, k < 6 → parseFieldDescriptor (TX4 k).2.2.1 = some (tyX4 k) := by decide +kernel
abbrev cX4_init : ByteArray := prog_6_method_1_code
def yX4_init : MethodName := ⟨RX4, "<init>", "()V"⟩
abbrev cX4_find : ByteArray := prog_6_method_2_code
def yX4_find : MethodName := ⟨RX4, "find", "(LCycleHouse$Graph;LCycleHouse$Ways;)V"⟩
abbrev cX4_isSumOfLighter : ByteArray := prog_6_method_3_code
def yX4_isSumOfLighter : MethodName := ⟨RX4, "isSumOfLighter", "(JJ)Z"⟩
abbrev cX4_gatherAll : ByteArray := prog_6_method_4_code
def yX4_gatherAll : MethodName := ⟨RX4, "gatherAll", "(LCycleHouse$Graph;LCycleHouse$Ways;)V"⟩
abbrev cX4_gather : ByteArray := prog_6_method_5_code
def yX4_gather : MethodName := ⟨RX4, "gather", "(LCycleHouse$Graph;LCycleHouse$Ways;I)V"⟩
abbrev cX4_lightestLeft : ByteArray := prog_6_method_6_code
def yX4_lightestLeft : MethodName := ⟨RX4, "lightestLeft", "()I"⟩
abbrev cX4_strike : ByteArray := prog_6_method_7_code
def yX4_strike : MethodName := ⟨RX4, "strike", "(J)V"⟩
abbrev cX4_mark : ByteArray := prog_6_method_8_code
def yX4_mark : MethodName := ⟨RX4, "mark", "(J)J"⟩
def RX5 : String := "CycleHouse$SetList"
def TX5 : u_T := fun k => match k with
  | 0 => ("CycleHouse$SetList", "sets", "I", false)
  | 1 => ("CycleHouse$SetList", "rank", "I", false)
  | _ => ("CycleHouse$SetList", "row", "[J", true)
def tyX5 : Nat → FieldType := fun k => match k with
  | 0 => .int
  | 1 => .int
  | _ => .array .long
abbrev wsX50 : List Cond := u_ws RX5 TX5 3
theorem nmX5 : ∀ a, a < 3 → ∀ b, b < 3 → a ≠ b → (TX5 a).2.1 ≠ (TX5 b).2.1 := by decide +kernel
theorem tyX5_ok : ∀ k, k < 3 → parseFieldDescriptor (TX5 k).2.2.1 = some (tyX5 k) := by decide +kernel
abbrev cX5_init : ByteArray := prog_7_method_1_code
def yX5_init : MethodName := ⟨RX5, "<init>", "()V"⟩
abbrev cX5_append : ByteArray := prog_7_method_2_code
def yX5_append : MethodName := ⟨RX5, "append", "(J)I"⟩
abbrev cX5_empty : ByteArray := prog_7_method_3_code
def yX5_empty : MethodName := ⟨RX5, "empty", "()V"⟩
abbrev cX5_rest : ByteArray := prog_7_method_4_code
def yX5_rest : MethodName := ⟨RX5, "rest", "(J)J"⟩
def RX6 : String := "CycleHouse$Ways"
def TX6 : u_T := fun k => match k with
  | 0 => ("CycleHouse$Ways", "length", "[J", true)
  | _ => ("CycleHouse$Ways", "way", "[J", true)
def tyX6 : Nat → FieldType := fun k => match k with
  | 0 => .array .long
  | _ => .array .long
abbrev wsX60 : List Cond := u_ws RX6 TX6 2
theorem nmX6 : ∀ a, a < 2 → ∀ b, b < 2 → a ≠ b → (TX6 a).2.1 ≠ (TX6 b).2.1 := by decide +kernel
theorem tyX6_ok : ∀ k, k < 2 → parseFieldDescriptor (TX6 k).2.2.1 = some (tyX6 k) := by decide +kernel
abbrev cX6_init : ByteArray := prog_8_method_1_code
def yX6_init : MethodName := ⟨RX6, "<init>", "()V"⟩
abbrev cX6_seek : ByteArray := prog_8_method_2_code
def yX6_seek : MethodName := ⟨RX6, "seek", "(LCycleHouse$Graph;II)V"⟩
abbrev cX6_reaches : ByteArray := prog_8_method_3_code
def yX6_reaches : MethodName := ⟨RX6, "reaches", "(I)Z"⟩
abbrev cX6_shortenAll : ByteArray := prog_8_method_4_code
def yX6_shortenAll : MethodName := ⟨RX6, "shortenAll", "(LCycleHouse$Graph;I)Z"⟩
abbrev cX6_shorten : ByteArray := prog_8_method_5_code
def yX6_shorten : MethodName := ⟨RX6, "shorten", "(IIII)Z"⟩
def RX7 : String := "CycleHouse"
def TX7 : u_T := fun k => match k with
  | 0 => ("CycleHouse", "graph", "LCycleHouse$Graph;", true)
  | 1 => ("CycleHouse", "list", "LCycleHouse$SetList;", true)
  | 2 => ("CycleHouse", "groups", "LCycleHouse$Groups;", true)
  | 3 => ("CycleHouse", "ways", "LCycleHouse$Ways;", true)
  | 4 => ("CycleHouse", "lightBasis", "LCycleHouse$LightBasis;", true)
  | 5 => ("CycleHouse", "forestCount", "LCycleHouse$ForestCount;", true)
  | 6 => ("CycleHouse", "cycleCount", "LCycleHouse$CycleCount;", true)
  | _ => ("CycleHouse", "rings", "[J", true)
def tyX7 : Nat → FieldType := fun k => match k with
  | 0 => .object "CycleHouse$Graph"
  | 1 => .object "CycleHouse$SetList"
  | 2 => .object "CycleHouse$Groups"
  | 3 => .object "CycleHouse$Ways"
  | 4 => .object "CycleHouse$LightBasis"
  | 5 => .object "CycleHouse$ForestCount"
  | 6 => .object "CycleHouse$CycleCount"
  | _ => .array .long
abbrev wsX70 : List Cond := u_ws RX7 TX7 8
theorem nmX7 : ∀ a, a < 8 → ∀ b, b < 8 → a ≠ b → (TX7 a).2.1 ≠ (TX7 b).2.1 := by decide +kernel
theorem tyX7_ok : ∀ k, k < 8 → parseFieldDescriptor (TX7 k).2.2.1 = some (tyX7 k) := by decide +kernel
abbrev cX7_init : ByteArray := prog_1_method_1_code
def yX7_init : MethodName := ⟨RX7, "<init>", "()V"⟩
abbrev cX7_reset : ByteArray := prog_1_method_2_code
def yX7_reset : MethodName := ⟨RX7, "reset", "(I)I"⟩
abbrev cX7_edge : ByteArray := prog_1_method_3_code
def yX7_edge : MethodName := ⟨RX7, "edge", "(III)I"⟩
abbrev cX7_drop : ByteArray := prog_1_method_4_code
def yX7_drop : MethodName := ⟨RX7, "drop", "()I"⟩
abbrev cX7_forests : ByteArray := prog_1_method_5_code
def yX7_forests : MethodName := ⟨RX7, "forests", "(J)J"⟩
abbrev cX7_lightest : ByteArray := prog_1_method_6_code
def yX7_lightest : MethodName := ⟨RX7, "lightest", "(J)J"⟩
abbrev cX7_isCycle : ByteArray := prog_1_method_7_code
def yX7_isCycle : MethodName := ⟨RX7, "isCycle", "(J)I"⟩
abbrev cX7_through : ByteArray := prog_1_method_8_code
def yX7_through : MethodName := ⟨RX7, "through", "(I)J"⟩
abbrev cX7_basis : ByteArray := prog_1_method_9_code
def yX7_basis : MethodName := ⟨RX7, "basis", "(I)J"⟩
abbrev cX7_belongs : ByteArray := prog_1_method_10_code
def yX7_belongs : MethodName := ⟨RX7, "belongs", "(J)Z"⟩
abbrev cX7_cycles : ByteArray := prog_1_method_11_code
def yX7_cycles : MethodName := ⟨RX7, "cycles", "()I"⟩
abbrev cX7_light : ByteArray := prog_1_method_12_code
def yX7_light : MethodName := ⟨RX7, "light", "(J)I"⟩
abbrev cX7_add : ByteArray := prog_1_method_13_code
def yX7_add : MethodName := ⟨RX7, "add", "(J)I"⟩
abbrev cX7_clear : ByteArray := prog_1_method_14_code
def yX7_clear : MethodName := ⟨RX7, "clear", "()I"⟩
abbrev cX7_spans : ByteArray := prog_1_method_15_code
def yX7_spans : MethodName := ⟨RX7, "spans", "(J)Z"⟩
abbrev cX7_look : ByteArray := prog_1_method_16_code
def yX7_look : MethodName := ⟨RX7, "look", "(I)I"⟩
abbrev cX7_checkEdges : ByteArray := prog_1_method_17_code
def yX7_checkEdges : MethodName := ⟨RX7, "checkEdges", "(J)V"⟩
abbrev cX7_checkListed : ByteArray := prog_1_method_18_code
def yX7_checkListed : MethodName := ⟨RX7, "checkListed", "(J)V"⟩
abbrev cX7_has : ByteArray := prog_1_method_19_code
def yX7_has : MethodName := ⟨RX7, "has", "(JI)Z"⟩
abbrev cX7_joinSet : ByteArray := prog_1_method_20_code
def yX7_joinSet : MethodName := ⟨RX7, "joinSet", "(J)I"⟩
abbrev cX7_joinWhole : ByteArray := prog_1_method_21_code
def yX7_joinWhole : MethodName := ⟨RX7, "joinWhole", "()I"⟩
abbrev cX7_fillRings : ByteArray := prog_1_method_22_code
def yX7_fillRings : MethodName := ⟨RX7, "fillRings", "()I"⟩
abbrev cX7_weightOfLightestJoins : ByteArray := prog_1_method_23_code
def yX7_weightOfLightestJoins : MethodName := ⟨RX7, "weightOfLightestJoins", "()J"⟩
abbrev cX7_lightestJoin : ByteArray := prog_1_method_24_code
def yX7_lightestJoin : MethodName := ⟨RX7, "lightestJoin", "()I"⟩
abbrev cX7_countGroups : ByteArray := prog_1_method_25_code
def yX7_countGroups : MethodName := ⟨RX7, "countGroups", "()I"⟩
abbrev cX7_countEdgesInNoCycle : ByteArray := prog_1_method_26_code
def yX7_countEdgesInNoCycle : MethodName := ⟨RX7, "countEdgesInNoCycle", "()I"⟩
abbrev cX7_hasOddCycle : ByteArray := prog_1_method_27_code
def yX7_hasOddCycle : MethodName := ⟨RX7, "hasOddCycle", "()Z"⟩
abbrev cX7_countCuttingVertices : ByteArray := prog_1_method_28_code
def yX7_countCuttingVertices : MethodName := ⟨RX7, "countCuttingVertices", "()I"⟩
def RX8 : String := "CycleHouseModel"
def TX8 : u_T := fun k => match k with
  | 0 => ("CycleHouseModel", "thrown", "I", false)
  | 1 => ("CycleHouseModel", "n", "I", false)
  | 2 => ("CycleHouseModel", "m", "I", false)
  | 3 => ("CycleHouseModel", "from", "[I", true)
  | 4 => ("CycleHouseModel", "to", "[I", true)
  | 5 => ("CycleHouseModel", "weight", "[I", true)
  | 6 => ("CycleHouseModel", "list", "[J", true)
  | 7 => ("CycleHouseModel", "listed", "I", false)
  | 8 => ("CycleHouseModel", "group", "[I", true)
  | 9 => ("CycleHouseModel", "ways", "[J", true)
  | 10 => ("CycleHouseModel", "closed", "I", false)
  | 11 => ("CycleHouseModel", "closing", "[J", true)
  | 12 => ("CycleHouseModel", "closer", "[I", true)
  | 13 => ("CycleHouseModel", "elements", "[J", true)
  | 14 => ("CycleHouseModel", "weights", "[J", true)
  | 15 => ("CycleHouseModel", "rows", "[J", true)
  | 16 => ("CycleHouseModel", "rowed", "I", false)
  | 17 => ("CycleHouseModel", "matrix", "[J", true)
  | 18 => ("CycleHouseModel", "place", "[I", true)
  | _ => ("CycleHouseModel", "reached", "[Z", true)
def tyX8 : Nat → FieldType := fun k => match k with
  | 0 => .int
  | 1 => .int
  | 2 => .int
  | 3 => .array .int
  | 4 => .array .int
  | 5 => .array .int
  | 6 => .array .long
  | 7 => .int
  | 8 => .array .int
  | 9 => .array .long
  | 10 => .int
  | 11 => .array .long
  | 12 => .array .int
  | 13 => .array .long
  | 14 => .array .long
  | 15 => .array .long
  | 16 => .int
  | 17 => .array .long
  | 18 => .array .int
  | _ => .array .boolean
abbrev wsX80 : List Cond := u_ws RX8 TX8 20
theorem nmX8 : ∀ a, a < 20 → ∀ b, b < 20 → a ≠ b → (TX8 a).2.1 ≠ (TX8 b).2.1 := by decide +kernel
theorem tyX8_ok : ∀ k, k < 20 → parseFieldDescriptor (TX8 k).2.2.1 = some (tyX8 k) := by decide +kernel
abbrev cX8_init : ByteArray := prog_10_method_1_code
def yX8_init : MethodName := ⟨RX8, "<init>", "()V"⟩
abbrev cX8_thrown : ByteArray := prog_10_method_2_code
def yX8_thrown : MethodName := ⟨RX8, "thrown", "()I"⟩
abbrev cX8_throwing : ByteArray := prog_10_method_3_code
def yX8_throwing : MethodName := ⟨RX8, "throwing", "(ZZ)Z"⟩
abbrev cX8_isVertex : ByteArray := prog_10_method_4_code
def yX8_isVertex : MethodName := ⟨RX8, "isVertex", "(I)Z"⟩
abbrev cX8_isSet : ByteArray := prog_10_method_5_code
def yX8_isSet : MethodName := ⟨RX8, "isSet", "(J)Z"⟩
abbrev cX8_beginGroups : ByteArray := prog_10_method_6_code
def yX8_beginGroups : MethodName := ⟨RX8, "beginGroups", "()V"⟩
abbrev cX8_joins : ByteArray := prog_10_method_7_code
def yX8_joins : MethodName := ⟨RX8, "joins", "(I)Z"⟩
abbrev cX8_groups : ByteArray := prog_10_method_8_code
def yX8_groups : MethodName := ⟨RX8, "groups", "()I"⟩
abbrev cX8_dimension : ByteArray := prog_10_method_9_code
def yX8_dimension : MethodName := ⟨RX8, "dimension", "()I"⟩
abbrev cX8_reset : ByteArray := prog_10_method_10_code
def yX8_reset : MethodName := ⟨RX8, "reset", "(I)I"⟩
abbrev cX8_edge : ByteArray := prog_10_method_11_code
def yX8_edge : MethodName := ⟨RX8, "edge", "(III)I"⟩
abbrev cX8_drop : ByteArray := prog_10_method_12_code
def yX8_drop : MethodName := ⟨RX8, "drop", "()I"⟩
abbrev cX8_weightOf : ByteArray := prog_10_method_13_code
def yX8_weightOf : MethodName := ⟨RX8, "weightOf", "(J)J"⟩
abbrev cX8_beginsWith : ByteArray := prog_10_method_14_code
def yX8_beginsWith : MethodName := ⟨RX8, "beginsWith", "(J)Z"⟩
abbrev cX8_forests : ByteArray := prog_10_method_15_code
def yX8_forests : MethodName := ⟨RX8, "forests", "(J)J"⟩
abbrev cX8_isFirst : ByteArray := prog_10_method_16_code
def yX8_isFirst : MethodName := ⟨RX8, "isFirst", "(I)Z"⟩
abbrev cX8_hang : ByteArray := prog_10_method_17_code
def yX8_hang : MethodName := ⟨RX8, "hang", "(II)Z"⟩
abbrev cX8_lay : ByteArray := prog_10_method_18_code
def yX8_lay : MethodName := ⟨RX8, "lay", "(II)V"⟩
abbrev cX8_determinant : ByteArray := prog_10_method_19_code
def yX8_determinant : MethodName := ⟨RX8, "determinant", "(I)J"⟩
abbrev cX8_lightest : ByteArray := prog_10_method_20_code
def yX8_lightest : MethodName := ⟨RX8, "lightest", "(J)J"⟩
abbrev cX8_spread : ByteArray := prog_10_method_21_code
def yX8_spread : MethodName := ⟨RX8, "spread", "()I"⟩
abbrev cX8_endsAt : ByteArray := prog_10_method_22_code
def yX8_endsAt : MethodName := ⟨RX8, "endsAt", "(JI)I"⟩
abbrev cX8_isEven : ByteArray := prog_10_method_23_code
def yX8_isEven : MethodName := ⟨RX8, "isEven", "(J)Z"⟩
abbrev cX8_isRing : ByteArray := prog_10_method_24_code
def yX8_isRing : MethodName := ⟨RX8, "isRing", "(J)Z"⟩
abbrev cX8_isCycle : ByteArray := prog_10_method_25_code
def yX8_isCycle : MethodName := ⟨RX8, "isCycle", "(J)I"⟩
abbrev cX8_through : ByteArray := prog_10_method_26_code
def yX8_through : MethodName := ⟨RX8, "through", "(I)J"⟩
abbrev cX8_rest : ByteArray := prog_10_method_27_code
def yX8_rest : MethodName := ⟨RX8, "rest", "(J)J"⟩
abbrev cX8_take : ByteArray := prog_10_method_28_code
def yX8_take : MethodName := ⟨RX8, "take", "(J)Z"⟩
abbrev cX8_basis : ByteArray := prog_10_method_29_code
def yX8_basis : MethodName := ⟨RX8, "basis", "(I)J"⟩
abbrev cX8_numberOf : ByteArray := prog_10_method_30_code
def yX8_numberOf : MethodName := ⟨RX8, "numberOf", "(J)I"⟩
abbrev cX8_belongs : ByteArray := prog_10_method_31_code
def yX8_belongs : MethodName := ⟨RX8, "belongs", "(J)Z"⟩
abbrev cX8_cycles : ByteArray := prog_10_method_32_code
def yX8_cycles : MethodName := ⟨RX8, "cycles", "()I"⟩
abbrev cX8_light : ByteArray := prog_10_method_33_code
def yX8_light : MethodName := ⟨RX8, "light", "(J)I"⟩
abbrev cX8_add : ByteArray := prog_10_method_34_code
def yX8_add : MethodName := ⟨RX8, "add", "(J)I"⟩
abbrev cX8_clear : ByteArray := prog_10_method_35_code
def yX8_clear : MethodName := ⟨RX8, "clear", "()I"⟩
abbrev cX8_takeList : ByteArray := prog_10_method_36_code
def yX8_takeList : MethodName := ⟨RX8, "takeList", "()V"⟩
abbrev cX8_spans : ByteArray := prog_10_method_37_code
def yX8_spans : MethodName := ⟨RX8, "spans", "(J)Z"⟩
abbrev cX8_alone : ByteArray := prog_10_method_38_code
def yX8_alone : MethodName := ⟨RX8, "alone", "()I"⟩
abbrev cX8_areEven : ByteArray := prog_10_method_39_code
def yX8_areEven : MethodName := ⟨RX8, "areEven", "()Z"⟩
abbrev cX8_parting : ByteArray := prog_10_method_40_code
def yX8_parting : MethodName := ⟨RX8, "parting", "()I"⟩
abbrev cX8_rank : ByteArray := prog_10_method_41_code
def yX8_rank : MethodName := ⟨RX8, "rank", "()I"⟩
abbrev cX8_look : ByteArray := prog_10_method_42_code
def yX8_look : MethodName := ⟨RX8, "look", "(I)I"⟩
def RJ6 : String := "java/lang/Integer"
def TJ6 : u_T := fun k => match k with
  | _ => ("", "", "", false)
def tyJ6 : Nat → FieldType := fun k => match k with
  | _ => .int
abbrev wsJ60 : List Cond := u_ws RJ6 TJ6 0
theorem nmJ6 : ∀ a, a < 0 → ∀ b, b < 0 → a ≠ b → (TJ6 a).2.1 ≠ (TJ6 b).2.1 := by decide +kernel
theorem tyJ6_ok : ∀ k, k < 0 → parseFieldDescriptor (TJ6 k).2.2.1 = some (tyJ6 k) := by decide +kernel
abbrev cJ6_numberOfTrailingZeros_0f7a4 : ByteArray := prog_14_method_48_code
def yJ6_numberOfTrailingZeros_0f7a4 : MethodName := ⟨RJ6, "numberOfTrailingZeros", "(I)I"⟩
def RJ13 : String := "java/lang/Long"
def TJ13 : u_T := fun k => match k with
  | _ => ("", "", "", false)
def tyJ13 : Nat → FieldType := fun k => match k with
  | _ => .int
abbrev wsJ130 : List Cond := u_ws RJ13 TJ13 0
theorem nmJ13 : ∀ a, a < 0 → ∀ b, b < 0 → a ≠ b → (TJ13 a).2.1 ≠ (TJ13 b).2.1 := by decide +kernel
theorem tyJ13_ok : ∀ k, k < 0 → parseFieldDescriptor (TJ13 k).2.2.1 = some (tyJ13 k) := by decide +kernel
abbrev cJ13_numberOfTrailingZeros_95d88 : ByteArray := prog_15_method_49_code
def yJ13_numberOfTrailingZeros_95d88 : MethodName := ⟨RJ13, "numberOfTrailingZeros", "(J)I"⟩
abbrev cJ13_bitCount_95d88 : ByteArray := prog_15_method_50_code
def yJ13_bitCount_95d88 : MethodName := ⟨RJ13, "bitCount", "(J)I"⟩
def RJ0 : String := "java/lang/String"
def TJ0 : u_T := fun k => match k with
  | _ => ("", "", "", false)
def tyJ0 : Nat → FieldType := fun k => match k with
  | _ => .int
abbrev wsJ00 : List Cond := u_ws RJ0 TJ0 0
theorem nmJ0 : ∀ a, a < 0 → ∀ b, b < 0 → a ≠ b → (TJ0 a).2.1 ≠ (TJ0 b).2.1 := by decide +kernel
theorem tyJ0_ok : ∀ k, k < 0 → parseFieldDescriptor (TJ0 k).2.2.1 = some (tyJ0 k) := by decide +kernel
def RJ7 : String := "java/util/Arrays"
def TJ7 : u_T := fun k => match k with
  | _ => ("", "", "", false)
def tyJ7 : Nat → FieldType := fun k => match k with
  | _ => .int
abbrev wsJ70 : List Cond := u_ws RJ7 TJ7 0
theorem nmJ7 : ∀ a, a < 0 → ∀ b, b < 0 → a ≠ b → (TJ7 a).2.1 ≠ (TJ7 b).2.1 := by decide +kernel
theorem tyJ7_ok : ∀ k, k < 0 → parseFieldDescriptor (TJ7 k).2.2.1 = some (tyJ7 k) := by decide +kernel
abbrev cJ7_fill_d0a16 : ByteArray := prog_19_method_101_code
def yJ7_fill_d0a16 : MethodName := ⟨RJ7, "fill", "([JJ)V"⟩
abbrev cJ7_fill_53178 : ByteArray := prog_19_method_103_code
def yJ7_fill_53178 : MethodName := ⟨RJ7, "fill", "([II)V"⟩
def RL : String := "CycleHouseLaw"
abbrev cL_reset : ByteArray := method_3_code
def yL_reset : MethodName := ⟨RL, "reset", "(LCycleHouse;I[J)I"⟩
abbrev cL_edge : ByteArray := method_4_code
def yL_edge : MethodName := ⟨RL, "edge", "(LCycleHouse;III[J)I"⟩
abbrev cL_drop : ByteArray := method_5_code
def yL_drop : MethodName := ⟨RL, "drop", "(LCycleHouse;[J)I"⟩
abbrev cL_forests : ByteArray := method_6_code
def yL_forests : MethodName := ⟨RL, "forests", "(LCycleHouse;J[J)I"⟩
abbrev cL_lightest : ByteArray := method_7_code
def yL_lightest : MethodName := ⟨RL, "lightest", "(LCycleHouse;J[J)I"⟩
abbrev cL_isCycle : ByteArray := method_8_code
def yL_isCycle : MethodName := ⟨RL, "isCycle", "(LCycleHouse;J[J)I"⟩
abbrev cL_through : ByteArray := method_9_code
def yL_through : MethodName := ⟨RL, "through", "(LCycleHouse;I[J)I"⟩
abbrev cL_basis : ByteArray := method_10_code
def yL_basis : MethodName := ⟨RL, "basis", "(LCycleHouse;I[J)I"⟩
abbrev cL_belongs : ByteArray := method_11_code
def yL_belongs : MethodName := ⟨RL, "belongs", "(LCycleHouse;J[J)I"⟩
abbrev cL_add : ByteArray := method_12_code
def yL_add : MethodName := ⟨RL, "add", "(LCycleHouse;J[J)I"⟩
abbrev cL_spans : ByteArray := method_13_code
def yL_spans : MethodName := ⟨RL, "spans", "(LCycleHouse;J[J)I"⟩
abbrev cL_look : ByteArray := method_14_code
def yL_look : MethodName := ⟨RL, "look", "(LCycleHouse;I[J)I"⟩
abbrev cL_law : ByteArray := code
def yL_law : MethodName := ⟨RL, "law", "([I)Z"⟩
def wsX0_init : List Cond := .code yX0_init cX0_init 1 none :: ([.methodLink RX0 3 objectInit, .instanceMethod objectInit, .code objectInit ⟨#[0xb1]⟩ 1 none, .classLink RX0 9 "[[I", .arrayClass .int, .fieldLink RX0 11 "CycleHouse$CycleCount" "between" "[[I"] ++ wsX00)
def wsJ7_fill_53178 : List Cond := .code yJ7_fill_53178 cJ7_fill_53178 4 none :: ([])
def wsX0_paths : List Cond := .code yX0_paths cX0_paths 7 (some .int) :: ([.methodLink RX0 35 yX0_paths, .static yX0_paths, .initialized RX0])
def wsX0_count : List Cond := .code yX0_count cX0_count 6 (some .int) :: ([.fieldLink RX0 11 "CycleHouse$CycleCount" "between" "[[I", .methodLink RX0 16 yJ7_fill_53178, .static yJ7_fill_53178, .initialized RJ7, .code yJ7_fill_53178 cJ7_fill_53178 4 none, .methodLink RX0 35 yX0_paths, .static yX0_paths, .initialized RX0, .code yX0_paths cX0_paths 7 (some .int)] ++ wsX00 ++ wsX20)
def wsX1_init : List Cond := .code yX1_init cX1_init 1 none :: ([.methodLink RX1 3 objectInit, .instanceMethod objectInit, .code objectInit ⟨#[0xb1]⟩ 1 none, .classLink RX1 9 "[[J", .arrayClass .long, .fieldLink RX1 11 "CycleHouse$ForestCount" "table" "[[J"] ++ wsX10)
def wsJ7_fill_d0a16 : List Cond := .code yJ7_fill_d0a16 cJ7_fill_d0a16 5 none :: ([])
def wsX1_eliminate : List Cond := .code yX1_eliminate cX1_eliminate 7 none :: ([.fieldLink RX1 11 "CycleHouse$ForestCount" "table" "[[J"] ++ wsX10)
def wsX1_determinant : List Cond := .code yX1_determinant cX1_determinant 7 (some .long) :: ([.fieldLink RX1 11 "CycleHouse$ForestCount" "table" "[[J", .methodLink RX1 47 yX1_eliminate, .instanceMethod yX1_eliminate, .selects RX1 yX1_eliminate yX1_eliminate, .initialized RX1, .code yX1_eliminate cX1_eliminate 7 none] ++ wsX10)
def wsX1_count : List Cond := .code yX1_count cX1_count 6 (some .long) :: ([.fieldLink RX1 11 "CycleHouse$ForestCount" "table" "[[J", .methodLink RX1 22 yJ7_fill_d0a16, .static yJ7_fill_d0a16, .initialized RJ7, .code yJ7_fill_d0a16 cJ7_fill_d0a16 5 none, .methodLink RX1 43 yX1_determinant, .instanceMethod yX1_determinant, .selects RX1 yX1_determinant yX1_determinant, .initialized RX1, .code yX1_determinant cX1_determinant 7 (some .long), .methodLink RX1 47 yX1_eliminate, .instanceMethod yX1_eliminate, .selects RX1 yX1_eliminate yX1_eliminate, .code yX1_eliminate cX1_eliminate 7 none] ++ wsX20 ++ wsX10 ++ wsX30)
def wsX2_init : List Cond := .code yX2_init cX2_init 1 none :: ([.methodLink RX2 3 objectInit, .instanceMethod objectInit, .code objectInit ⟨#[0xb1]⟩ 1 none, .fieldLink RX2 9 "CycleHouse$Graph" "vertices" "I", .arrayClass .int, .fieldLink RX2 15 "CycleHouse$Graph" "from" "[I", .fieldLink RX2 19 "CycleHouse$Graph" "to" "[I", .fieldLink RX2 22 "CycleHouse$Graph" "weight" "[I"] ++ wsX20)
def wsX2_begin : List Cond := .code yX2_begin cX2_begin 2 none :: ([.fieldLink RX2 9 "CycleHouse$Graph" "vertices" "I", .fieldLink RX2 25 "CycleHouse$Graph" "edges" "I"] ++ wsX20)
def wsX2_hasVertex : List Cond := .code yX2_hasVertex cX2_hasVertex 2 (some .boolean) :: ([.fieldLink RX2 9 "CycleHouse$Graph" "vertices" "I"] ++ wsX20)
def wsX2_append : List Cond := .code yX2_append cX2_append 5 (some .int) :: ([.fieldLink RX2 25 "CycleHouse$Graph" "edges" "I", .fieldLink RX2 15 "CycleHouse$Graph" "from" "[I", .fieldLink RX2 19 "CycleHouse$Graph" "to" "[I", .fieldLink RX2 22 "CycleHouse$Graph" "weight" "[I"] ++ wsX20)
def wsX2_removeLast : List Cond := .code yX2_removeLast cX2_removeLast 1 (some .int) :: ([.fieldLink RX2 25 "CycleHouse$Graph" "edges" "I"] ++ wsX20)
def wsX7_has : List Cond := .code yX7_has cX7_has 3 (some .boolean) :: ([])
def wsX2_isEven : List Cond := .code yX2_isEven cX2_isEven 5 (some .boolean) :: ([.fieldLink RX2 25 "CycleHouse$Graph" "edges" "I", .fieldLink RX2 15 "CycleHouse$Graph" "from" "[I", .fieldLink RX2 19 "CycleHouse$Graph" "to" "[I", .static yX7_has, .initialized RX7, .code yX7_has cX7_has 3 (some .boolean)] ++ wsX20)
def wsJ13_bitCount_95d88 : List Cond := .code yJ13_bitCount_95d88 cJ13_bitCount_95d88 2 (some .int) :: ([.constantLong RJ13 314 (6148914691236517205), .constantLong RJ13 316 (3689348814741910323), .constantLong RJ13 318 (1085102592571150095)])
def wsJ6_numberOfTrailingZeros_0f7a4 : List Cond := .code yJ6_numberOfTrailingZeros_0f7a4 cJ6_numberOfTrailingZeros_0f7a4 2 (some .int) :: ([.constant RJ6 264 (65536)])
def wsJ13_numberOfTrailingZeros_95d88 : List Cond := .code yJ13_numberOfTrailingZeros_95d88 cJ13_numberOfTrailingZeros_95d88 3 (some .int) :: ([.methodLink RJ13 311 yJ6_numberOfTrailingZeros_0f7a4, .static yJ6_numberOfTrailingZeros_0f7a4, .initialized RJ6, .code yJ6_numberOfTrailingZeros_0f7a4 cJ6_numberOfTrailingZeros_0f7a4 2 (some .int), .constant RJ6 264 (65536)])
def wsX2_gain : List Cond := .code yX2_gain cX2_gain 11 (some .long) :: ([.fieldLink RX2 22 "CycleHouse$Graph" "weight" "[I", .methodLink RX2 36 yJ13_bitCount_95d88, .static yJ13_bitCount_95d88, .initialized RJ13, .code yJ13_bitCount_95d88 cJ13_bitCount_95d88 2 (some .int), .constantLong RJ13 314 (6148914691236517205), .constantLong RJ13 316 (3689348814741910323), .constantLong RJ13 318 (1085102592571150095), .methodLink RX2 42 yJ13_numberOfTrailingZeros_95d88, .static yJ13_numberOfTrailingZeros_95d88, .code yJ13_numberOfTrailingZeros_95d88 cJ13_numberOfTrailingZeros_95d88 3 (some .int), .methodLink RJ13 311 yJ6_numberOfTrailingZeros_0f7a4, .static yJ6_numberOfTrailingZeros_0f7a4, .initialized RJ6, .code yJ6_numberOfTrailingZeros_0f7a4 cJ6_numberOfTrailingZeros_0f7a4 2 (some .int), .constant RJ6 264 (65536), .static yX7_has, .initialized RX7, .code yX7_has cX7_has 3 (some .boolean)] ++ wsX20)
def wsX2_weigh : List Cond := .code yX2_weigh cX2_weigh 3 (some .long) :: ([.methodLink RX2 32 yX2_gain, .instanceMethod yX2_gain, .selects RX2 yX2_gain yX2_gain, .initialized RX2, .code yX2_gain cX2_gain 11 (some .long), .fieldLink RX2 22 "CycleHouse$Graph" "weight" "[I", .methodLink RX2 36 yJ13_bitCount_95d88, .static yJ13_bitCount_95d88, .initialized RJ13, .code yJ13_bitCount_95d88 cJ13_bitCount_95d88 2 (some .int), .constantLong RJ13 314 (6148914691236517205), .constantLong RJ13 316 (3689348814741910323), .constantLong RJ13 318 (1085102592571150095), .methodLink RX2 42 yJ13_numberOfTrailingZeros_95d88, .static yJ13_numberOfTrailingZeros_95d88, .code yJ13_numberOfTrailingZeros_95d88 cJ13_numberOfTrailingZeros_95d88 3 (some .int), .methodLink RJ13 311 yJ6_numberOfTrailingZeros_0f7a4, .static yJ6_numberOfTrailingZeros_0f7a4, .initialized RJ6, .code yJ6_numberOfTrailingZeros_0f7a4 cJ6_numberOfTrailingZeros_0f7a4 2 (some .int), .constant RJ6 264 (65536), .static yX7_has, .initialized RX7, .code yX7_has cX7_has 3 (some .boolean)] ++ wsX20)
def wsX2_edgesApartFrom : List Cond := .code yX2_edgesApartFrom cX2_edgesApartFrom 5 (some .long) :: ([.fieldLink RX2 25 "CycleHouse$Graph" "edges" "I", .fieldLink RX2 15 "CycleHouse$Graph" "from" "[I", .fieldLink RX2 19 "CycleHouse$Graph" "to" "[I"] ++ wsX20)
def wsX3_init : List Cond := .code yX3_init cX3_init 1 none :: ([.methodLink RX3 3 objectInit, .instanceMethod objectInit, .code objectInit ⟨#[0xb1]⟩ 1 none, .arrayClass .int, .fieldLink RX3 9 "CycleHouse$Groups" "name" "[I", .arrayClass .long, .fieldLink RX3 15 "CycleHouse$Groups" "way" "[J"] ++ wsX30)
def wsX3_part : List Cond := .code yX3_part cX3_part 3 none :: ([.fieldLink RX3 19 "CycleHouse$Groups" "vertices" "I", .fieldLink RX3 23 "CycleHouse$Groups" "count" "I", .fieldLink RX3 9 "CycleHouse$Groups" "name" "[I", .fieldLink RX3 15 "CycleHouse$Groups" "way" "[J"] ++ wsX30)
def wsX3_together : List Cond := .code yX3_together cX3_together 3 (some .boolean) :: ([.fieldLink RX3 9 "CycleHouse$Groups" "name" "[I"] ++ wsX30)
def wsX3_merge : List Cond := .code yX3_merge cX3_merge 6 none :: ([.fieldLink RX3 19 "CycleHouse$Groups" "vertices" "I", .fieldLink RX3 9 "CycleHouse$Groups" "name" "[I", .fieldLink RX3 15 "CycleHouse$Groups" "way" "[J", .fieldLink RX3 23 "CycleHouse$Groups" "count" "I"] ++ wsX30)
def wsX3_join : List Cond := .code yX3_join cX3_join 7 (some .long) :: ([.fieldLink RX3 15 "CycleHouse$Groups" "way" "[J", .fieldLink RX3 9 "CycleHouse$Groups" "name" "[I", .methodLink RX3 34 yX3_together, .instanceMethod yX3_together, .selects RX3 yX3_together yX3_together, .initialized RX3, .code yX3_together cX3_together 3 (some .boolean), .methodLink RX3 38 yX3_merge, .instanceMethod yX3_merge, .selects RX3 yX3_merge yX3_merge, .code yX3_merge cX3_merge 6 none, .fieldLink RX3 19 "CycleHouse$Groups" "vertices" "I", .fieldLink RX3 23 "CycleHouse$Groups" "count" "I"] ++ wsX20 ++ wsX30)
def wsX4_init : List Cond := .code yX4_init cX4_init 1 none :: ([.methodLink RX4 3 objectInit, .instanceMethod objectInit, .code objectInit ⟨#[0xb1]⟩ 1 none, .arrayClass .long, .fieldLink RX4 9 "CycleHouse$LightBasis" "ring" "[J", .fieldLink RX4 15 "CycleHouse$LightBasis" "weight" "[J", .fieldLink RX4 18 "CycleHouse$LightBasis" "left" "[J", .fieldLink RX4 21 "CycleHouse$LightBasis" "leftWeight" "[J"] ++ wsX40)
def wsX6_shorten : List Cond := .code yX6_shorten cX6_shorten 5 (some .boolean) :: ([.fieldLink RX6 9 "CycleHouse$Ways" "length" "[J", .fieldLink RX6 15 "CycleHouse$Ways" "way" "[J"] ++ wsX60)
def wsX6_shortenAll : List Cond := .code yX6_shortenAll cX6_shortenAll 7 (some .boolean) :: ([.methodLink RX6 43 yX6_shorten, .instanceMethod yX6_shorten, .selects RX6 yX6_shorten yX6_shorten, .initialized RX6, .code yX6_shorten cX6_shorten 5 (some .boolean), .fieldLink RX6 9 "CycleHouse$Ways" "length" "[J", .fieldLink RX6 15 "CycleHouse$Ways" "way" "[J"] ++ wsX20 ++ wsX60)
def wsX6_seek : List Cond := .code yX6_seek cX6_seek 6 none :: ([.fieldLink RX6 9 "CycleHouse$Ways" "length" "[J", .constantLong RX6 24 (1152921504606846976), .fieldLink RX6 15 "CycleHouse$Ways" "way" "[J", .methodLink RX6 26 yX6_shortenAll, .instanceMethod yX6_shortenAll, .selects RX6 yX6_shortenAll yX6_shortenAll, .initialized RX6, .code yX6_shortenAll cX6_shortenAll 7 (some .boolean), .methodLink RX6 43 yX6_shorten, .instanceMethod yX6_shorten, .selects RX6 yX6_shorten yX6_shorten, .code yX6_shorten cX6_shorten 5 (some .boolean)] ++ wsX20 ++ wsX60)
def wsX6_reaches : List Cond := .code yX6_reaches cX6_reaches 2 (some .boolean) :: ([.fieldLink RX6 9 "CycleHouse$Ways" "length" "[J", .constantLong RX6 24 (1152921504606846976)] ++ wsX60)
def wsX4_gather : List Cond := .code yX4_gather cX4_gather 8 none :: ([.fieldLink RX4 18 "CycleHouse$LightBasis" "left" "[J", .fieldLink RX4 44 "CycleHouse$LightBasis" "candidates" "I", .fieldLink RX4 21 "CycleHouse$LightBasis" "leftWeight" "[J", .methodLink RX4 75 yX6_reaches, .instanceMethod yX6_reaches, .selects RX6 yX6_reaches yX6_reaches, .initialized RX6, .code yX6_reaches cX6_reaches 2 (some .boolean), .fieldLink RX6 9 "CycleHouse$Ways" "length" "[J", .constantLong RX6 24 (1152921504606846976)] ++ wsX20 ++ wsX60 ++ wsX40)
def wsX4_gatherAll_r1 : List Cond := [Cond.fieldLink RX4 44 "CycleHouse$LightBasis" "candidates" "I", Cond.methodLink RX4 52 yX6_seek, Cond.instanceMethod yX6_seek, Cond.selects RX6 yX6_seek yX6_seek, Cond.initialized RX6, Cond.code yX6_seek cX6_seek 6 none, Cond.fieldLink RX6 9 "CycleHouse$Ways" "length" "[J", Cond.constantLong RX6 24 (1152921504606846976), Cond.fieldLink RX6 15 "CycleHouse$Ways" "way" "[J", Cond.methodLink RX6 26 yX6_shortenAll, Cond.instanceMethod yX6_shortenAll, Cond.selects RX6 yX6_shortenAll yX6_shortenAll, Cond.code yX6_shortenAll cX6_shortenAll 7 (some .boolean), Cond.methodLink RX6 43 yX6_shorten, Cond.instanceMethod yX6_shorten, Cond.selects RX6 yX6_shorten yX6_shorten, Cond.code yX6_shorten cX6_shorten 5 (some .boolean), Cond.methodLink RX4 61 yX4_gather, Cond.instanceMethod yX4_gather, Cond.selects RX4 yX4_gather yX4_gather, Cond.initialized RX4, Cond.code yX4_gather cX4_gather 8 none, Cond.fieldLink RX4 18 "CycleHouse$LightBasis" "left" "[J", Cond.fieldLink RX4 21 "CycleHouse$LightBasis" "leftWeight" "[J"]
def wsX4_gatherAll_r2 : List Cond := [Cond.methodLink RX4 75 yX6_reaches, Cond.instanceMethod yX6_reaches, Cond.selects RX6 yX6_reaches yX6_reaches, Cond.code yX6_reaches cX6_reaches 2 (some .boolean)]
def wsX4_gatherAll : List Cond := .code yX4_gatherAll cX4_gatherAll 5 none :: ((wsX4_gatherAll_r1 ++ wsX4_gatherAll_r2) ++ wsX40 ++ wsX20 ++ wsX60)
def wsX4_lightestLeft : List Cond := .code yX4_lightestLeft cX4_lightestLeft 3 (some .int) :: ([.fieldLink RX4 44 "CycleHouse$LightBasis" "candidates" "I", .fieldLink RX4 18 "CycleHouse$LightBasis" "left" "[J", .fieldLink RX4 21 "CycleHouse$LightBasis" "leftWeight" "[J"] ++ wsX40)
def wsX4_mark : List Cond := .code yX4_mark cX4_mark 2 (some .long) :: ([])
def wsX4_strike : List Cond := .code yX4_strike cX4_strike 4 none :: ([.fieldLink RX4 44 "CycleHouse$LightBasis" "candidates" "I", .fieldLink RX4 18 "CycleHouse$LightBasis" "left" "[J", .methodLink RX4 40 yX4_mark, .static yX4_mark, .initialized RX4, .code yX4_mark cX4_mark 2 (some .long)] ++ wsX40)
def wsX4_find_r1 : List Cond := [Cond.fieldLink RX4 28 "CycleHouse$LightBasis" "size" "I", Cond.fieldLink RX4 9 "CycleHouse$LightBasis" "ring" "[J", Cond.fieldLink RX4 18 "CycleHouse$LightBasis" "left" "[J", Cond.fieldLink RX4 15 "CycleHouse$LightBasis" "weight" "[J", Cond.fieldLink RX4 21 "CycleHouse$LightBasis" "leftWeight" "[J", Cond.methodLink RX4 24 yX4_gatherAll, Cond.instanceMethod yX4_gatherAll, Cond.selects RX4 yX4_gatherAll yX4_gatherAll, Cond.initialized RX4, Cond.code yX4_gatherAll cX4_gatherAll 5 none, Cond.fieldLink RX4 44 "CycleHouse$LightBasis" "candidates" "I", Cond.methodLink RX4 52 yX6_seek, Cond.instanceMethod yX6_seek, Cond.selects RX6 yX6_seek yX6_seek, Cond.initialized RX6, Cond.code yX6_seek cX6_seek 6 none, Cond.fieldLink RX6 9 "CycleHouse$Ways" "length" "[J", Cond.constantLong RX6 24 (1152921504606846976), Cond.fieldLink RX6 15 "CycleHouse$Ways" "way" "[J", Cond.methodLink RX6 26 yX6_shortenAll, Cond.instanceMethod yX6_shortenAll, Cond.selects RX6 yX6_shortenAll yX6_shortenAll, Cond.code yX6_shortenAll cX6_shortenAll 7 (some .boolean), Cond.methodLink RX6 43 yX6_shorten]
def wsX4_find_r2 : List Cond := [Cond.instanceMethod yX6_shorten, Cond.selects RX6 yX6_shorten yX6_shorten, Cond.code yX6_shorten cX6_shorten 5 (some .boolean), Cond.methodLink RX4 61 yX4_gather, Cond.instanceMethod yX4_gather, Cond.selects RX4 yX4_gather yX4_gather, Cond.code yX4_gather cX4_gather 8 none, Cond.methodLink RX4 75 yX6_reaches, Cond.instanceMethod yX6_reaches, Cond.selects RX6 yX6_reaches yX6_reaches, Cond.code yX6_reaches cX6_reaches 2 (some .boolean), Cond.methodLink RX4 32 yX4_lightestLeft, Cond.instanceMethod yX4_lightestLeft, Cond.selects RX4 yX4_lightestLeft yX4_lightestLeft, Cond.code yX4_lightestLeft cX4_lightestLeft 3 (some .int), Cond.methodLink RX4 36 yX4_strike, Cond.instanceMethod yX4_strike, Cond.selects RX4 yX4_strike yX4_strike, Cond.code yX4_strike cX4_strike 4 none, Cond.methodLink RX4 40 yX4_mark, Cond.static yX4_mark, Cond.code yX4_mark cX4_mark 2 (some .long)]
def wsX4_find : List Cond := .code yX4_find cX4_find 4 none :: ((wsX4_find_r1 ++ wsX4_find_r2) ++ wsX40 ++ wsX20 ++ wsX60)
def wsX4_isSumOfLighter : List Cond := .code yX4_isSumOfLighter cX4_isSumOfLighter 8 (some .boolean) :: ([.fieldLink RX4 28 "CycleHouse$LightBasis" "size" "I", .fieldLink RX4 15 "CycleHouse$LightBasis" "weight" "[J", .fieldLink RX4 9 "CycleHouse$LightBasis" "ring" "[J", .methodLink RX4 40 yX4_mark, .static yX4_mark, .initialized RX4, .code yX4_mark cX4_mark 2 (some .long)] ++ wsX40)
def wsX5_init : List Cond := .code yX5_init cX5_init 1 none :: ([.methodLink RX5 3 objectInit, .instanceMethod objectInit, .code objectInit ⟨#[0xb1]⟩ 1 none, .arrayClass .long, .fieldLink RX5 9 "CycleHouse$SetList" "row" "[J"] ++ wsX50)
def wsX5_rest : List Cond := .code yX5_rest cX5_rest 6 (some .long) :: ([.fieldLink RX5 9 "CycleHouse$SetList" "row" "[J", .static yX7_has, .initialized RX7, .code yX7_has cX7_has 3 (some .boolean)] ++ wsX50)
def wsX5_append : List Cond := .code yX5_append cX5_append 5 (some .int) :: ([.fieldLink RX5 9 "CycleHouse$SetList" "row" "[J", .fieldLink RX5 25 "CycleHouse$SetList" "rank" "I", .fieldLink RX5 29 "CycleHouse$SetList" "sets" "I", .methodLink RX5 15 yX5_rest, .instanceMethod yX5_rest, .selects RX5 yX5_rest yX5_rest, .initialized RX5, .code yX5_rest cX5_rest 6 (some .long), .static yX7_has, .initialized RX7, .code yX7_has cX7_has 3 (some .boolean), .methodLink RX5 19 yJ13_numberOfTrailingZeros_95d88, .static yJ13_numberOfTrailingZeros_95d88, .initialized RJ13, .code yJ13_numberOfTrailingZeros_95d88 cJ13_numberOfTrailingZeros_95d88 3 (some .int), .methodLink RJ13 311 yJ6_numberOfTrailingZeros_0f7a4, .static yJ6_numberOfTrailingZeros_0f7a4, .initialized RJ6, .code yJ6_numberOfTrailingZeros_0f7a4 cJ6_numberOfTrailingZeros_0f7a4 2 (some .int), .constant RJ6 264 (65536)] ++ wsX50)
def wsX5_empty : List Cond := .code yX5_empty cX5_empty 1 none :: ([.fieldLink RX5 29 "CycleHouse$SetList" "sets" "I", .fieldLink RX5 25 "CycleHouse$SetList" "rank" "I", .fieldLink RX5 9 "CycleHouse$SetList" "row" "[J", .methodLink RX5 32 yJ7_fill_d0a16, .static yJ7_fill_d0a16, .initialized RJ7, .code yJ7_fill_d0a16 cJ7_fill_d0a16 5 none] ++ wsX50)
def wsX6_init : List Cond := .code yX6_init cX6_init 1 none :: ([.methodLink RX6 3 objectInit, .instanceMethod objectInit, .code objectInit ⟨#[0xb1]⟩ 1 none, .arrayClass .long, .fieldLink RX6 9 "CycleHouse$Ways" "length" "[J", .fieldLink RX6 15 "CycleHouse$Ways" "way" "[J"] ++ wsX60)
def wsX7_init_r1 : List Cond := [Cond.methodLink RX7 1 objectInit, Cond.instanceMethod objectInit, Cond.code objectInit ⟨#[0xb1]⟩ 1 none, Cond.classLink RX7 7 RX2, Cond.instantiable RX2 5, Cond.initialized RX2, Cond.fieldLink RX7 10 "CycleHouse" "graph" "LCycleHouse$Graph;", Cond.classLink RX7 16 RX5, Cond.instantiable RX5 3, Cond.initialized RX5, Cond.fieldLink RX7 19 "CycleHouse" "list" "LCycleHouse$SetList;", Cond.classLink RX7 23 RX3, Cond.instantiable RX3 4, Cond.initialized RX3, Cond.fieldLink RX7 26 "CycleHouse" "groups" "LCycleHouse$Groups;", Cond.classLink RX7 30 RX6, Cond.instantiable RX6 2, Cond.initialized RX6, Cond.fieldLink RX7 33 "CycleHouse" "ways" "LCycleHouse$Ways;", Cond.classLink RX7 37 RX4, Cond.instantiable RX4 6, Cond.initialized RX4, Cond.fieldLink RX7 40 "CycleHouse" "lightBasis" "LCycleHouse$LightBasis;", Cond.classLink RX7 44 RX1]
def wsX7_init_r2 : List Cond := [Cond.instantiable RX1 1, Cond.initialized RX1, Cond.fieldLink RX7 47 "CycleHouse" "forestCount" "LCycleHouse$ForestCount;", Cond.classLink RX7 51 RX0, Cond.instantiable RX0 1, Cond.initialized RX0, Cond.fieldLink RX7 54 "CycleHouse" "cycleCount" "LCycleHouse$CycleCount;", Cond.arrayClass .long, Cond.fieldLink RX7 58 "CycleHouse" "rings" "[J", Cond.methodLink RX7 9 yX2_init, Cond.instanceMethod yX2_init, Cond.code yX2_init cX2_init 1 none, Cond.methodLink RX2 3 objectInit, Cond.fieldLink RX2 9 "CycleHouse$Graph" "vertices" "I", Cond.arrayClass .int, Cond.fieldLink RX2 15 "CycleHouse$Graph" "from" "[I", Cond.fieldLink RX2 19 "CycleHouse$Graph" "to" "[I", Cond.fieldLink RX2 22 "CycleHouse$Graph" "weight" "[I", Cond.methodLink RX7 18 yX5_init, Cond.instanceMethod yX5_init, Cond.code yX5_init cX5_init 1 none, Cond.methodLink RX5 3 objectInit, Cond.fieldLink RX5 9 "CycleHouse$SetList" "row" "[J", Cond.methodLink RX7 25 yX3_init]
def wsX7_init_r3 : List Cond := [Cond.instanceMethod yX3_init, Cond.code yX3_init cX3_init 1 none, Cond.methodLink RX3 3 objectInit, Cond.fieldLink RX3 9 "CycleHouse$Groups" "name" "[I", Cond.fieldLink RX3 15 "CycleHouse$Groups" "way" "[J", Cond.methodLink RX7 32 yX6_init, Cond.instanceMethod yX6_init, Cond.code yX6_init cX6_init 1 none, Cond.methodLink RX6 3 objectInit, Cond.fieldLink RX6 9 "CycleHouse$Ways" "length" "[J", Cond.fieldLink RX6 15 "CycleHouse$Ways" "way" "[J", Cond.methodLink RX7 39 yX4_init, Cond.instanceMethod yX4_init, Cond.code yX4_init cX4_init 1 none, Cond.methodLink RX4 3 objectInit, Cond.fieldLink RX4 9 "CycleHouse$LightBasis" "ring" "[J", Cond.fieldLink RX4 15 "CycleHouse$LightBasis" "weight" "[J", Cond.fieldLink RX4 18 "CycleHouse$LightBasis" "left" "[J", Cond.fieldLink RX4 21 "CycleHouse$LightBasis" "leftWeight" "[J", Cond.methodLink RX7 46 yX1_init, Cond.instanceMethod yX1_init, Cond.code yX1_init cX1_init 1 none, Cond.methodLink RX1 3 objectInit, Cond.classLink RX1 9 "[[J"]
def wsX7_init_r4 : List Cond := [Cond.fieldLink RX1 11 "CycleHouse$ForestCount" "table" "[[J", Cond.methodLink RX7 53 yX0_init, Cond.instanceMethod yX0_init, Cond.code yX0_init cX0_init 1 none, Cond.methodLink RX0 3 objectInit, Cond.classLink RX0 9 "[[I", Cond.fieldLink RX0 11 "CycleHouse$CycleCount" "between" "[[I"]
def wsX7_init : List Cond := .code yX7_init cX7_init 1 none :: ((wsX7_init_r1 ++ (wsX7_init_r2 ++ (wsX7_init_r3 ++ wsX7_init_r4))) ++ wsX20 ++ wsX70 ++ wsX50 ++ wsX30 ++ wsX60 ++ wsX40 ++ wsX10 ++ wsX00)
def wsX7_joinSet_r1 : List Cond := [Cond.fieldLink RX7 26 "CycleHouse" "groups" "LCycleHouse$Groups;", Cond.fieldLink RX7 10 "CycleHouse" "graph" "LCycleHouse$Graph;", Cond.methodLink RX7 230 yX3_part, Cond.instanceMethod yX3_part, Cond.selects RX3 yX3_part yX3_part, Cond.initialized RX3, Cond.code yX3_part cX3_part 3 none, Cond.fieldLink RX3 19 "CycleHouse$Groups" "vertices" "I", Cond.fieldLink RX3 23 "CycleHouse$Groups" "count" "I", Cond.fieldLink RX3 9 "CycleHouse$Groups" "name" "[I", Cond.fieldLink RX3 15 "CycleHouse$Groups" "way" "[J", Cond.methodLink RX7 233 yX7_has, Cond.static yX7_has, Cond.initialized RX7, Cond.code yX7_has cX7_has 3 (some .boolean), Cond.methodLink RX7 237 yX3_join, Cond.instanceMethod yX3_join, Cond.selects RX3 yX3_join yX3_join, Cond.code yX3_join cX3_join 7 (some .long), Cond.methodLink RX3 34 yX3_together, Cond.instanceMethod yX3_together, Cond.selects RX3 yX3_together yX3_together, Cond.code yX3_together cX3_together 3 (some .boolean), Cond.methodLink RX3 38 yX3_merge]
def wsX7_joinSet_r2 : List Cond := [Cond.instanceMethod yX3_merge, Cond.selects RX3 yX3_merge yX3_merge, Cond.code yX3_merge cX3_merge 6 none]
def wsX7_joinSet : List Cond := .code yX7_joinSet cX7_joinSet 5 (some .int) :: ((wsX7_joinSet_r1 ++ wsX7_joinSet_r2) ++ wsX70 ++ wsX20 ++ wsX30)
def wsX7_joinWhole_r1 : List Cond := [Cond.fieldLink RX7 10 "CycleHouse" "graph" "LCycleHouse$Graph;", Cond.methodLink RX7 114 yX7_joinSet, Cond.instanceMethod yX7_joinSet, Cond.selects RX7 yX7_joinSet yX7_joinSet, Cond.initialized RX7, Cond.code yX7_joinSet cX7_joinSet 5 (some .int), Cond.fieldLink RX7 26 "CycleHouse" "groups" "LCycleHouse$Groups;", Cond.methodLink RX7 230 yX3_part, Cond.instanceMethod yX3_part, Cond.selects RX3 yX3_part yX3_part, Cond.initialized RX3, Cond.code yX3_part cX3_part 3 none, Cond.fieldLink RX3 19 "CycleHouse$Groups" "vertices" "I", Cond.fieldLink RX3 23 "CycleHouse$Groups" "count" "I", Cond.fieldLink RX3 9 "CycleHouse$Groups" "name" "[I", Cond.fieldLink RX3 15 "CycleHouse$Groups" "way" "[J", Cond.methodLink RX7 233 yX7_has, Cond.static yX7_has, Cond.code yX7_has cX7_has 3 (some .boolean), Cond.methodLink RX7 237 yX3_join, Cond.instanceMethod yX3_join, Cond.selects RX3 yX3_join yX3_join, Cond.code yX3_join cX3_join 7 (some .long), Cond.methodLink RX3 34 yX3_together]
def wsX7_joinWhole_r2 : List Cond := [Cond.instanceMethod yX3_together, Cond.selects RX3 yX3_together yX3_together, Cond.code yX3_together cX3_together 3 (some .boolean), Cond.methodLink RX3 38 yX3_merge, Cond.instanceMethod yX3_merge, Cond.selects RX3 yX3_merge yX3_merge, Cond.code yX3_merge cX3_merge 6 none]
def wsX7_joinWhole : List Cond := .code yX7_joinWhole cX7_joinWhole 1 (some .int) :: ((wsX7_joinWhole_r1 ++ wsX7_joinWhole_r2) ++ wsX70 ++ wsX20 ++ wsX30)
def wsX7_edge_r1 : List Cond := [Cond.classLink RX7 62 "java/lang/IllegalArgumentException", Cond.initialized "java/lang/IllegalArgumentException", Cond.classLink RX7 86 "java/lang/IllegalStateException", Cond.initialized "java/lang/IllegalStateException", Cond.fieldLink RX7 10 "CycleHouse" "graph" "LCycleHouse$Graph;", Cond.constant RX7 83 (1000000000), Cond.fieldLink RX7 26 "CycleHouse" "groups" "LCycleHouse$Groups;", Cond.methodLink RX7 77 yX2_hasVertex, Cond.instanceMethod yX2_hasVertex, Cond.selects RX2 yX2_hasVertex yX2_hasVertex, Cond.initialized RX2, Cond.code yX2_hasVertex cX2_hasVertex 2 (some .boolean), Cond.fieldLink RX2 9 "CycleHouse$Graph" "vertices" "I", Cond.methodLink RX7 91 yX7_joinWhole, Cond.instanceMethod yX7_joinWhole, Cond.selects RX7 yX7_joinWhole yX7_joinWhole, Cond.initialized RX7, Cond.code yX7_joinWhole cX7_joinWhole 1 (some .int), Cond.methodLink RX7 114 yX7_joinSet, Cond.instanceMethod yX7_joinSet, Cond.selects RX7 yX7_joinSet yX7_joinSet, Cond.code yX7_joinSet cX7_joinSet 5 (some .int), Cond.methodLink RX7 230 yX3_part, Cond.instanceMethod yX3_part]
def wsX7_edge_r2 : List Cond := [Cond.selects RX3 yX3_part yX3_part, Cond.initialized RX3, Cond.code yX3_part cX3_part 3 none, Cond.fieldLink RX3 19 "CycleHouse$Groups" "vertices" "I", Cond.fieldLink RX3 23 "CycleHouse$Groups" "count" "I", Cond.fieldLink RX3 9 "CycleHouse$Groups" "name" "[I", Cond.fieldLink RX3 15 "CycleHouse$Groups" "way" "[J", Cond.methodLink RX7 233 yX7_has, Cond.static yX7_has, Cond.code yX7_has cX7_has 3 (some .boolean), Cond.methodLink RX7 237 yX3_join, Cond.instanceMethod yX3_join, Cond.selects RX3 yX3_join yX3_join, Cond.code yX3_join cX3_join 7 (some .long), Cond.methodLink RX3 34 yX3_together, Cond.instanceMethod yX3_together, Cond.selects RX3 yX3_together yX3_together, Cond.code yX3_together cX3_together 3 (some .boolean), Cond.methodLink RX3 38 yX3_merge, Cond.instanceMethod yX3_merge, Cond.selects RX3 yX3_merge yX3_merge, Cond.code yX3_merge cX3_merge 6 none, Cond.methodLink RX7 95 yX3_together, Cond.methodLink RX7 101 yX2_append]
def wsX7_edge_r3 : List Cond := [Cond.instanceMethod yX2_append, Cond.selects RX2 yX2_append yX2_append, Cond.code yX2_append cX2_append 5 (some .int), Cond.fieldLink RX2 25 "CycleHouse$Graph" "edges" "I", Cond.fieldLink RX2 15 "CycleHouse$Graph" "from" "[I", Cond.fieldLink RX2 19 "CycleHouse$Graph" "to" "[I", Cond.fieldLink RX2 22 "CycleHouse$Graph" "weight" "[I"]
def wsX7_forests_r1 : List Cond := [Cond.fieldLink RX7 47 "CycleHouse" "forestCount" "LCycleHouse$ForestCount;", Cond.fieldLink RX7 10 "CycleHouse" "graph" "LCycleHouse$Graph;", Cond.fieldLink RX7 26 "CycleHouse" "groups" "LCycleHouse$Groups;", Cond.methodLink RX7 110 yX7_checkEdges, Cond.instanceMethod yX7_checkEdges, Cond.selects RX7 yX7_checkEdges yX7_checkEdges, Cond.initialized RX7, Cond.code yX7_checkEdges cX7_checkEdges 3 none, Cond.classLink RX7 62 "java/lang/IllegalArgumentException", Cond.initialized "java/lang/IllegalArgumentException", Cond.methodLink RX7 114 yX7_joinSet, Cond.instanceMethod yX7_joinSet, Cond.selects RX7 yX7_joinSet yX7_joinSet, Cond.code yX7_joinSet cX7_joinSet 5 (some .int), Cond.methodLink RX7 230 yX3_part, Cond.instanceMethod yX3_part, Cond.selects RX3 yX3_part yX3_part, Cond.initialized RX3, Cond.code yX3_part cX3_part 3 none, Cond.fieldLink RX3 19 "CycleHouse$Groups" "vertices" "I", Cond.fieldLink RX3 23 "CycleHouse$Groups" "count" "I", Cond.fieldLink RX3 9 "CycleHouse$Groups" "name" "[I", Cond.fieldLink RX3 15 "CycleHouse$Groups" "way" "[J", Cond.methodLink RX7 233 yX7_has]
def wsX7_forests_r2 : List Cond := [Cond.static yX7_has, Cond.code yX7_has cX7_has 3 (some .boolean), Cond.methodLink RX7 237 yX3_join, Cond.instanceMethod yX3_join, Cond.selects RX3 yX3_join yX3_join, Cond.code yX3_join cX3_join 7 (some .long), Cond.methodLink RX3 34 yX3_together, Cond.instanceMethod yX3_together, Cond.selects RX3 yX3_together yX3_together, Cond.code yX3_together cX3_together 3 (some .boolean), Cond.methodLink RX3 38 yX3_merge, Cond.instanceMethod yX3_merge, Cond.selects RX3 yX3_merge yX3_merge, Cond.code yX3_merge cX3_merge 6 none, Cond.methodLink RX7 118 yX1_count, Cond.instanceMethod yX1_count, Cond.selects RX1 yX1_count yX1_count, Cond.initialized RX1, Cond.code yX1_count cX1_count 6 (some .long), Cond.fieldLink RX1 11 "CycleHouse$ForestCount" "table" "[[J", Cond.methodLink RX1 22 yJ7_fill_d0a16, Cond.static yJ7_fill_d0a16, Cond.initialized RJ7, Cond.code yJ7_fill_d0a16 cJ7_fill_d0a16 5 none]
def wsX7_forests_r3 : List Cond := [Cond.methodLink RX1 43 yX1_determinant, Cond.instanceMethod yX1_determinant, Cond.selects RX1 yX1_determinant yX1_determinant, Cond.code yX1_determinant cX1_determinant 7 (some .long), Cond.methodLink RX1 47 yX1_eliminate, Cond.instanceMethod yX1_eliminate, Cond.selects RX1 yX1_eliminate yX1_eliminate, Cond.code yX1_eliminate cX1_eliminate 7 none]
def wsX7_lightestJoin : List Cond := .code yX7_lightestJoin cX7_lightestJoin 3 (some .int) :: ([.fieldLink RX7 10 "CycleHouse" "graph" "LCycleHouse$Graph;", .fieldLink RX7 26 "CycleHouse" "groups" "LCycleHouse$Groups;", .methodLink RX7 95 yX3_together, .instanceMethod yX3_together, .selects RX3 yX3_together yX3_together, .initialized RX3, .code yX3_together cX3_together 3 (some .boolean), .fieldLink RX3 9 "CycleHouse$Groups" "name" "[I"] ++ wsX70 ++ wsX20 ++ wsX30)
def wsX7_weightOfLightestJoins_r1 : List Cond := [Cond.fieldLink RX7 10 "CycleHouse" "graph" "LCycleHouse$Graph;", Cond.fieldLink RX7 26 "CycleHouse" "groups" "LCycleHouse$Groups;", Cond.methodLink RX7 241 yX7_lightestJoin, Cond.instanceMethod yX7_lightestJoin, Cond.selects RX7 yX7_lightestJoin yX7_lightestJoin, Cond.initialized RX7, Cond.code yX7_lightestJoin cX7_lightestJoin 3 (some .int), Cond.methodLink RX7 95 yX3_together, Cond.instanceMethod yX3_together, Cond.selects RX3 yX3_together yX3_together, Cond.initialized RX3, Cond.code yX3_together cX3_together 3 (some .boolean), Cond.fieldLink RX3 9 "CycleHouse$Groups" "name" "[I", Cond.methodLink RX7 237 yX3_join, Cond.instanceMethod yX3_join, Cond.selects RX3 yX3_join yX3_join, Cond.code yX3_join cX3_join 7 (some .long), Cond.fieldLink RX3 15 "CycleHouse$Groups" "way" "[J", Cond.methodLink RX3 34 yX3_together, Cond.methodLink RX3 38 yX3_merge, Cond.instanceMethod yX3_merge, Cond.selects RX3 yX3_merge yX3_merge, Cond.code yX3_merge cX3_merge 6 none, Cond.fieldLink RX3 19 "CycleHouse$Groups" "vertices" "I"]
def wsX7_weightOfLightestJoins_r2 : List Cond := [Cond.fieldLink RX3 23 "CycleHouse$Groups" "count" "I"]
def wsX7_weightOfLightestJoins : List Cond := .code yX7_weightOfLightestJoins cX7_weightOfLightestJoins 5 (some .long) :: ((wsX7_weightOfLightestJoins_r1 ++ wsX7_weightOfLightestJoins_r2) ++ wsX70 ++ wsX20 ++ wsX30)
def wsX7_lightest_r1 : List Cond := [Cond.constantLong RX7 122 (-1), Cond.fieldLink RX7 10 "CycleHouse" "graph" "LCycleHouse$Graph;", Cond.methodLink RX7 110 yX7_checkEdges, Cond.instanceMethod yX7_checkEdges, Cond.selects RX7 yX7_checkEdges yX7_checkEdges, Cond.initialized RX7, Cond.code yX7_checkEdges cX7_checkEdges 3 none, Cond.classLink RX7 62 "java/lang/IllegalArgumentException", Cond.initialized "java/lang/IllegalArgumentException", Cond.methodLink RX7 114 yX7_joinSet, Cond.instanceMethod yX7_joinSet, Cond.selects RX7 yX7_joinSet yX7_joinSet, Cond.code yX7_joinSet cX7_joinSet 5 (some .int), Cond.fieldLink RX7 26 "CycleHouse" "groups" "LCycleHouse$Groups;", Cond.methodLink RX7 230 yX3_part, Cond.instanceMethod yX3_part, Cond.selects RX3 yX3_part yX3_part, Cond.initialized RX3, Cond.code yX3_part cX3_part 3 none, Cond.fieldLink RX3 19 "CycleHouse$Groups" "vertices" "I", Cond.fieldLink RX3 23 "CycleHouse$Groups" "count" "I", Cond.fieldLink RX3 9 "CycleHouse$Groups" "name" "[I", Cond.fieldLink RX3 15 "CycleHouse$Groups" "way" "[J", Cond.methodLink RX7 233 yX7_has]
def wsX7_lightest_r2 : List Cond := [Cond.static yX7_has, Cond.code yX7_has cX7_has 3 (some .boolean), Cond.methodLink RX7 237 yX3_join, Cond.instanceMethod yX3_join, Cond.selects RX3 yX3_join yX3_join, Cond.code yX3_join cX3_join 7 (some .long), Cond.methodLink RX3 34 yX3_together, Cond.instanceMethod yX3_together, Cond.selects RX3 yX3_together yX3_together, Cond.code yX3_together cX3_together 3 (some .boolean), Cond.methodLink RX3 38 yX3_merge, Cond.instanceMethod yX3_merge, Cond.selects RX3 yX3_merge yX3_merge, Cond.code yX3_merge cX3_merge 6 none, Cond.methodLink RX7 124 yX2_weigh, Cond.instanceMethod yX2_weigh, Cond.selects RX2 yX2_weigh yX2_weigh, Cond.initialized RX2, Cond.code yX2_weigh cX2_weigh 3 (some .long), Cond.methodLink RX2 32 yX2_gain, Cond.instanceMethod yX2_gain, Cond.selects RX2 yX2_gain yX2_gain, Cond.code yX2_gain cX2_gain 11 (some .long), Cond.fieldLink RX2 22 "CycleHouse$Graph" "weight" "[I"]
def wsX7_lightest_r3 : List Cond := [Cond.methodLink RX2 36 yJ13_bitCount_95d88, Cond.static yJ13_bitCount_95d88, Cond.initialized RJ13, Cond.code yJ13_bitCount_95d88 cJ13_bitCount_95d88 2 (some .int), Cond.constantLong RJ13 314 (6148914691236517205), Cond.constantLong RJ13 316 (3689348814741910323), Cond.constantLong RJ13 318 (1085102592571150095), Cond.methodLink RX2 42 yJ13_numberOfTrailingZeros_95d88, Cond.static yJ13_numberOfTrailingZeros_95d88, Cond.code yJ13_numberOfTrailingZeros_95d88 cJ13_numberOfTrailingZeros_95d88 3 (some .int), Cond.methodLink RJ13 311 yJ6_numberOfTrailingZeros_0f7a4, Cond.static yJ6_numberOfTrailingZeros_0f7a4, Cond.initialized RJ6, Cond.code yJ6_numberOfTrailingZeros_0f7a4 cJ6_numberOfTrailingZeros_0f7a4 2 (some .int), Cond.constant RJ6 264 (65536), Cond.methodLink RX7 128 yX7_weightOfLightestJoins, Cond.instanceMethod yX7_weightOfLightestJoins, Cond.selects RX7 yX7_weightOfLightestJoins yX7_weightOfLightestJoins, Cond.code yX7_weightOfLightestJoins cX7_weightOfLightestJoins 5 (some .long), Cond.methodLink RX7 241 yX7_lightestJoin, Cond.instanceMethod yX7_lightestJoin, Cond.selects RX7 yX7_lightestJoin yX7_lightestJoin, Cond.code yX7_lightestJoin cX7_lightestJoin 3 (some .int), Cond.methodLink RX7 95 yX3_together]
def wsX7_isCycle_r1 : List Cond := [Cond.fieldLink RX7 10 "CycleHouse" "graph" "LCycleHouse$Graph;", Cond.methodLink RX7 110 yX7_checkEdges, Cond.instanceMethod yX7_checkEdges, Cond.selects RX7 yX7_checkEdges yX7_checkEdges, Cond.initialized RX7, Cond.code yX7_checkEdges cX7_checkEdges 3 none, Cond.classLink RX7 62 "java/lang/IllegalArgumentException", Cond.initialized "java/lang/IllegalArgumentException", Cond.methodLink RX7 132 yX2_isEven, Cond.instanceMethod yX2_isEven, Cond.selects RX2 yX2_isEven yX2_isEven, Cond.initialized RX2, Cond.code yX2_isEven cX2_isEven 5 (some .boolean), Cond.fieldLink RX2 25 "CycleHouse$Graph" "edges" "I", Cond.fieldLink RX2 15 "CycleHouse$Graph" "from" "[I", Cond.fieldLink RX2 19 "CycleHouse$Graph" "to" "[I", Cond.static yX7_has, Cond.code yX7_has cX7_has 3 (some .boolean), Cond.methodLink RX7 114 yX7_joinSet, Cond.instanceMethod yX7_joinSet, Cond.selects RX7 yX7_joinSet yX7_joinSet, Cond.code yX7_joinSet cX7_joinSet 5 (some .int), Cond.fieldLink RX7 26 "CycleHouse" "groups" "LCycleHouse$Groups;", Cond.methodLink RX7 230 yX3_part]
def wsX7_isCycle_r2 : List Cond := [Cond.instanceMethod yX3_part, Cond.selects RX3 yX3_part yX3_part, Cond.initialized RX3, Cond.code yX3_part cX3_part 3 none, Cond.fieldLink RX3 19 "CycleHouse$Groups" "vertices" "I", Cond.fieldLink RX3 23 "CycleHouse$Groups" "count" "I", Cond.fieldLink RX3 9 "CycleHouse$Groups" "name" "[I", Cond.fieldLink RX3 15 "CycleHouse$Groups" "way" "[J", Cond.methodLink RX7 233 yX7_has, Cond.methodLink RX7 237 yX3_join, Cond.instanceMethod yX3_join, Cond.selects RX3 yX3_join yX3_join, Cond.code yX3_join cX3_join 7 (some .long), Cond.methodLink RX3 34 yX3_together, Cond.instanceMethod yX3_together, Cond.selects RX3 yX3_together yX3_together, Cond.code yX3_together cX3_together 3 (some .boolean), Cond.methodLink RX3 38 yX3_merge, Cond.instanceMethod yX3_merge, Cond.selects RX3 yX3_merge yX3_merge, Cond.code yX3_merge cX3_merge 6 none]
def wsX7_through_r1 : List Cond := [Cond.classLink RX7 136 "java/util/NoSuchElementException", Cond.initialized "java/util/NoSuchElementException", Cond.fieldLink RX7 10 "CycleHouse" "graph" "LCycleHouse$Graph;", Cond.fieldLink RX7 33 "CycleHouse" "ways" "LCycleHouse$Ways;", Cond.constantLong RX7 122 (-1), Cond.methodLink RX7 145 yX6_seek, Cond.instanceMethod yX6_seek, Cond.selects RX6 yX6_seek yX6_seek, Cond.initialized RX6, Cond.code yX6_seek cX6_seek 6 none, Cond.fieldLink RX6 9 "CycleHouse$Ways" "length" "[J", Cond.constantLong RX6 24 (1152921504606846976), Cond.fieldLink RX6 15 "CycleHouse$Ways" "way" "[J", Cond.methodLink RX6 26 yX6_shortenAll, Cond.instanceMethod yX6_shortenAll, Cond.selects RX6 yX6_shortenAll yX6_shortenAll, Cond.code yX6_shortenAll cX6_shortenAll 7 (some .boolean), Cond.methodLink RX6 43 yX6_shorten, Cond.instanceMethod yX6_shorten, Cond.selects RX6 yX6_shorten yX6_shorten, Cond.code yX6_shorten cX6_shorten 5 (some .boolean), Cond.methodLink RX7 152 yX6_reaches, Cond.instanceMethod yX6_reaches, Cond.selects RX6 yX6_reaches yX6_reaches]
def wsX7_through_r2 : List Cond := [Cond.code yX6_reaches cX6_reaches 2 (some .boolean)]
def wsX7_basis_r1 : List Cond := [Cond.classLink RX7 136 "java/util/NoSuchElementException", Cond.initialized "java/util/NoSuchElementException", Cond.fieldLink RX7 40 "CycleHouse" "lightBasis" "LCycleHouse$LightBasis;", Cond.fieldLink RX7 10 "CycleHouse" "graph" "LCycleHouse$Graph;", Cond.fieldLink RX7 33 "CycleHouse" "ways" "LCycleHouse$Ways;", Cond.methodLink RX7 91 yX7_joinWhole, Cond.instanceMethod yX7_joinWhole, Cond.selects RX7 yX7_joinWhole yX7_joinWhole, Cond.initialized RX7, Cond.code yX7_joinWhole cX7_joinWhole 1 (some .int), Cond.methodLink RX7 114 yX7_joinSet, Cond.instanceMethod yX7_joinSet, Cond.selects RX7 yX7_joinSet yX7_joinSet, Cond.code yX7_joinSet cX7_joinSet 5 (some .int), Cond.fieldLink RX7 26 "CycleHouse" "groups" "LCycleHouse$Groups;", Cond.methodLink RX7 230 yX3_part, Cond.instanceMethod yX3_part, Cond.selects RX3 yX3_part yX3_part, Cond.initialized RX3, Cond.code yX3_part cX3_part 3 none, Cond.fieldLink RX3 19 "CycleHouse$Groups" "vertices" "I", Cond.fieldLink RX3 23 "CycleHouse$Groups" "count" "I", Cond.fieldLink RX3 9 "CycleHouse$Groups" "name" "[I", Cond.fieldLink RX3 15 "CycleHouse$Groups" "way" "[J"]
def wsX7_basis_r2 : List Cond := [Cond.methodLink RX7 233 yX7_has, Cond.static yX7_has, Cond.code yX7_has cX7_has 3 (some .boolean), Cond.methodLink RX7 237 yX3_join, Cond.instanceMethod yX3_join, Cond.selects RX3 yX3_join yX3_join, Cond.code yX3_join cX3_join 7 (some .long), Cond.methodLink RX3 34 yX3_together, Cond.instanceMethod yX3_together, Cond.selects RX3 yX3_together yX3_together, Cond.code yX3_together cX3_together 3 (some .boolean), Cond.methodLink RX3 38 yX3_merge, Cond.instanceMethod yX3_merge, Cond.selects RX3 yX3_merge yX3_merge, Cond.code yX3_merge cX3_merge 6 none, Cond.methodLink RX7 163 yX4_find, Cond.instanceMethod yX4_find, Cond.selects RX4 yX4_find yX4_find, Cond.initialized RX4, Cond.code yX4_find cX4_find 4 none, Cond.fieldLink RX4 28 "CycleHouse$LightBasis" "size" "I", Cond.fieldLink RX4 9 "CycleHouse$LightBasis" "ring" "[J", Cond.fieldLink RX4 18 "CycleHouse$LightBasis" "left" "[J", Cond.fieldLink RX4 15 "CycleHouse$LightBasis" "weight" "[J"]
def wsX7_basis_r3 : List Cond := [Cond.fieldLink RX4 21 "CycleHouse$LightBasis" "leftWeight" "[J", Cond.methodLink RX4 24 yX4_gatherAll, Cond.instanceMethod yX4_gatherAll, Cond.selects RX4 yX4_gatherAll yX4_gatherAll, Cond.code yX4_gatherAll cX4_gatherAll 5 none, Cond.fieldLink RX4 44 "CycleHouse$LightBasis" "candidates" "I", Cond.methodLink RX4 52 yX6_seek, Cond.instanceMethod yX6_seek, Cond.selects RX6 yX6_seek yX6_seek, Cond.initialized RX6, Cond.code yX6_seek cX6_seek 6 none, Cond.fieldLink RX6 9 "CycleHouse$Ways" "length" "[J", Cond.constantLong RX6 24 (1152921504606846976), Cond.fieldLink RX6 15 "CycleHouse$Ways" "way" "[J", Cond.methodLink RX6 26 yX6_shortenAll, Cond.instanceMethod yX6_shortenAll, Cond.selects RX6 yX6_shortenAll yX6_shortenAll, Cond.code yX6_shortenAll cX6_shortenAll 7 (some .boolean), Cond.methodLink RX6 43 yX6_shorten, Cond.instanceMethod yX6_shorten, Cond.selects RX6 yX6_shorten yX6_shorten, Cond.code yX6_shorten cX6_shorten 5 (some .boolean), Cond.methodLink RX4 61 yX4_gather, Cond.instanceMethod yX4_gather]
def wsX7_basis_r4 : List Cond := [Cond.selects RX4 yX4_gather yX4_gather, Cond.code yX4_gather cX4_gather 8 none, Cond.methodLink RX4 75 yX6_reaches, Cond.instanceMethod yX6_reaches, Cond.selects RX6 yX6_reaches yX6_reaches, Cond.code yX6_reaches cX6_reaches 2 (some .boolean), Cond.methodLink RX4 32 yX4_lightestLeft, Cond.instanceMethod yX4_lightestLeft, Cond.selects RX4 yX4_lightestLeft yX4_lightestLeft, Cond.code yX4_lightestLeft cX4_lightestLeft 3 (some .int), Cond.methodLink RX4 36 yX4_strike, Cond.instanceMethod yX4_strike, Cond.selects RX4 yX4_strike yX4_strike, Cond.code yX4_strike cX4_strike 4 none, Cond.methodLink RX4 40 yX4_mark, Cond.static yX4_mark, Cond.code yX4_mark cX4_mark 2 (some .long)]
def wsX7_belongs_r1 : List Cond := [Cond.fieldLink RX7 10 "CycleHouse" "graph" "LCycleHouse$Graph;", Cond.fieldLink RX7 40 "CycleHouse" "lightBasis" "LCycleHouse$LightBasis;", Cond.fieldLink RX7 33 "CycleHouse" "ways" "LCycleHouse$Ways;", Cond.methodLink RX7 110 yX7_checkEdges, Cond.instanceMethod yX7_checkEdges, Cond.selects RX7 yX7_checkEdges yX7_checkEdges, Cond.initialized RX7, Cond.code yX7_checkEdges cX7_checkEdges 3 none, Cond.classLink RX7 62 "java/lang/IllegalArgumentException", Cond.initialized "java/lang/IllegalArgumentException", Cond.methodLink RX7 132 yX2_isEven, Cond.instanceMethod yX2_isEven, Cond.selects RX2 yX2_isEven yX2_isEven, Cond.initialized RX2, Cond.code yX2_isEven cX2_isEven 5 (some .boolean), Cond.fieldLink RX2 25 "CycleHouse$Graph" "edges" "I", Cond.fieldLink RX2 15 "CycleHouse$Graph" "from" "[I", Cond.fieldLink RX2 19 "CycleHouse$Graph" "to" "[I", Cond.static yX7_has, Cond.code yX7_has cX7_has 3 (some .boolean), Cond.methodLink RX7 163 yX4_find, Cond.instanceMethod yX4_find, Cond.selects RX4 yX4_find yX4_find, Cond.initialized RX4]
def wsX7_belongs_r2 : List Cond := [Cond.code yX4_find cX4_find 4 none, Cond.fieldLink RX4 28 "CycleHouse$LightBasis" "size" "I", Cond.fieldLink RX4 9 "CycleHouse$LightBasis" "ring" "[J", Cond.fieldLink RX4 18 "CycleHouse$LightBasis" "left" "[J", Cond.fieldLink RX4 15 "CycleHouse$LightBasis" "weight" "[J", Cond.fieldLink RX4 21 "CycleHouse$LightBasis" "leftWeight" "[J", Cond.methodLink RX4 24 yX4_gatherAll, Cond.instanceMethod yX4_gatherAll, Cond.selects RX4 yX4_gatherAll yX4_gatherAll, Cond.code yX4_gatherAll cX4_gatherAll 5 none, Cond.fieldLink RX4 44 "CycleHouse$LightBasis" "candidates" "I", Cond.methodLink RX4 52 yX6_seek, Cond.instanceMethod yX6_seek, Cond.selects RX6 yX6_seek yX6_seek, Cond.initialized RX6, Cond.code yX6_seek cX6_seek 6 none, Cond.fieldLink RX6 9 "CycleHouse$Ways" "length" "[J", Cond.constantLong RX6 24 (1152921504606846976), Cond.fieldLink RX6 15 "CycleHouse$Ways" "way" "[J", Cond.methodLink RX6 26 yX6_shortenAll, Cond.instanceMethod yX6_shortenAll, Cond.selects RX6 yX6_shortenAll yX6_shortenAll, Cond.code yX6_shortenAll cX6_shortenAll 7 (some .boolean), Cond.methodLink RX6 43 yX6_shorten]
def wsX7_belongs_r3 : List Cond := [Cond.instanceMethod yX6_shorten, Cond.selects RX6 yX6_shorten yX6_shorten, Cond.code yX6_shorten cX6_shorten 5 (some .boolean), Cond.methodLink RX4 61 yX4_gather, Cond.instanceMethod yX4_gather, Cond.selects RX4 yX4_gather yX4_gather, Cond.code yX4_gather cX4_gather 8 none, Cond.methodLink RX4 75 yX6_reaches, Cond.instanceMethod yX6_reaches, Cond.selects RX6 yX6_reaches yX6_reaches, Cond.code yX6_reaches cX6_reaches 2 (some .boolean), Cond.methodLink RX4 32 yX4_lightestLeft, Cond.instanceMethod yX4_lightestLeft, Cond.selects RX4 yX4_lightestLeft yX4_lightestLeft, Cond.code yX4_lightestLeft cX4_lightestLeft 3 (some .int), Cond.methodLink RX4 36 yX4_strike, Cond.instanceMethod yX4_strike, Cond.selects RX4 yX4_strike yX4_strike, Cond.code yX4_strike cX4_strike 4 none, Cond.methodLink RX4 40 yX4_mark, Cond.static yX4_mark, Cond.code yX4_mark cX4_mark 2 (some .long), Cond.methodLink RX7 124 yX2_weigh, Cond.instanceMethod yX2_weigh]
def wsX7_belongs_r4 : List Cond := [Cond.selects RX2 yX2_weigh yX2_weigh, Cond.code yX2_weigh cX2_weigh 3 (some .long), Cond.methodLink RX2 32 yX2_gain, Cond.instanceMethod yX2_gain, Cond.selects RX2 yX2_gain yX2_gain, Cond.code yX2_gain cX2_gain 11 (some .long), Cond.fieldLink RX2 22 "CycleHouse$Graph" "weight" "[I", Cond.methodLink RX2 36 yJ13_bitCount_95d88, Cond.static yJ13_bitCount_95d88, Cond.initialized RJ13, Cond.code yJ13_bitCount_95d88 cJ13_bitCount_95d88 2 (some .int), Cond.constantLong RJ13 314 (6148914691236517205), Cond.constantLong RJ13 316 (3689348814741910323), Cond.constantLong RJ13 318 (1085102592571150095), Cond.methodLink RX2 42 yJ13_numberOfTrailingZeros_95d88, Cond.static yJ13_numberOfTrailingZeros_95d88, Cond.code yJ13_numberOfTrailingZeros_95d88 cJ13_numberOfTrailingZeros_95d88 3 (some .int), Cond.methodLink RJ13 311 yJ6_numberOfTrailingZeros_0f7a4, Cond.static yJ6_numberOfTrailingZeros_0f7a4, Cond.initialized RJ6, Cond.code yJ6_numberOfTrailingZeros_0f7a4 cJ6_numberOfTrailingZeros_0f7a4 2 (some .int), Cond.constant RJ6 264 (65536), Cond.methodLink RX7 169 yX4_isSumOfLighter, Cond.instanceMethod yX4_isSumOfLighter]
def wsX7_belongs_r5 : List Cond := [Cond.selects RX4 yX4_isSumOfLighter yX4_isSumOfLighter, Cond.code yX4_isSumOfLighter cX4_isSumOfLighter 8 (some .boolean)]
def wsX7_cycles : List Cond := .code yX7_cycles cX7_cycles 1 (some .int) :: ([.fieldLink RX7 54 "CycleHouse" "cycleCount" "LCycleHouse$CycleCount;", .fieldLink RX7 10 "CycleHouse" "graph" "LCycleHouse$Graph;", .methodLink RX7 173 yX0_count, .instanceMethod yX0_count, .selects RX0 yX0_count yX0_count, .initialized RX0, .code yX0_count cX0_count 6 (some .int), .fieldLink RX0 11 "CycleHouse$CycleCount" "between" "[[I", .methodLink RX0 16 yJ7_fill_53178, .static yJ7_fill_53178, .initialized RJ7, .code yJ7_fill_53178 cJ7_fill_53178 4 none, .methodLink RX0 35 yX0_paths, .static yX0_paths, .code yX0_paths cX0_paths 7 (some .int)] ++ wsX70 ++ wsX00 ++ wsX20)
def wsX7_fillRings : List Cond := .code yX7_fillRings cX7_fillRings 5 (some .int) :: ([.fieldLink RX7 26 "CycleHouse" "groups" "LCycleHouse$Groups;", .fieldLink RX7 10 "CycleHouse" "graph" "LCycleHouse$Graph;", .fieldLink RX7 58 "CycleHouse" "rings" "[J", .methodLink RX7 230 yX3_part, .instanceMethod yX3_part, .selects RX3 yX3_part yX3_part, .initialized RX3, .code yX3_part cX3_part 3 none, .fieldLink RX3 19 "CycleHouse$Groups" "vertices" "I", .fieldLink RX3 23 "CycleHouse$Groups" "count" "I", .fieldLink RX3 9 "CycleHouse$Groups" "name" "[I", .fieldLink RX3 15 "CycleHouse$Groups" "way" "[J", .methodLink RX7 237 yX3_join, .instanceMethod yX3_join, .selects RX3 yX3_join yX3_join, .code yX3_join cX3_join 7 (some .long), .methodLink RX3 34 yX3_together, .instanceMethod yX3_together, .selects RX3 yX3_together yX3_together, .code yX3_together cX3_together 3 (some .boolean), .methodLink RX3 38 yX3_merge, .instanceMethod yX3_merge, .selects RX3 yX3_merge yX3_merge, .code yX3_merge cX3_merge 6 none] ++ wsX70 ++ wsX20 ++ wsX30)
def wsX7_light_r1 : List Cond := [Cond.fieldLink RX7 58 "CycleHouse" "rings" "[J", Cond.fieldLink RX7 10 "CycleHouse" "graph" "LCycleHouse$Graph;", Cond.methodLink RX7 176 yX7_fillRings, Cond.instanceMethod yX7_fillRings, Cond.selects RX7 yX7_fillRings yX7_fillRings, Cond.initialized RX7, Cond.code yX7_fillRings cX7_fillRings 5 (some .int), Cond.fieldLink RX7 26 "CycleHouse" "groups" "LCycleHouse$Groups;", Cond.methodLink RX7 230 yX3_part, Cond.instanceMethod yX3_part, Cond.selects RX3 yX3_part yX3_part, Cond.initialized RX3, Cond.code yX3_part cX3_part 3 none, Cond.fieldLink RX3 19 "CycleHouse$Groups" "vertices" "I", Cond.fieldLink RX3 23 "CycleHouse$Groups" "count" "I", Cond.fieldLink RX3 9 "CycleHouse$Groups" "name" "[I", Cond.fieldLink RX3 15 "CycleHouse$Groups" "way" "[J", Cond.methodLink RX7 237 yX3_join, Cond.instanceMethod yX3_join, Cond.selects RX3 yX3_join yX3_join, Cond.code yX3_join cX3_join 7 (some .long), Cond.methodLink RX3 34 yX3_together, Cond.instanceMethod yX3_together, Cond.selects RX3 yX3_together yX3_together]
def wsX7_light_r2 : List Cond := [Cond.code yX3_together cX3_together 3 (some .boolean), Cond.methodLink RX3 38 yX3_merge, Cond.instanceMethod yX3_merge, Cond.selects RX3 yX3_merge yX3_merge, Cond.code yX3_merge cX3_merge 6 none, Cond.methodLink RX7 179 yJ6_numberOfTrailingZeros_0f7a4, Cond.static yJ6_numberOfTrailingZeros_0f7a4, Cond.initialized RJ6, Cond.code yJ6_numberOfTrailingZeros_0f7a4 cJ6_numberOfTrailingZeros_0f7a4 2 (some .int), Cond.constant RJ6 264 (65536), Cond.methodLink RX7 185 yX2_gain, Cond.instanceMethod yX2_gain, Cond.selects RX2 yX2_gain yX2_gain, Cond.initialized RX2, Cond.code yX2_gain cX2_gain 11 (some .long), Cond.fieldLink RX2 22 "CycleHouse$Graph" "weight" "[I", Cond.methodLink RX2 36 yJ13_bitCount_95d88, Cond.static yJ13_bitCount_95d88, Cond.initialized RJ13, Cond.code yJ13_bitCount_95d88 cJ13_bitCount_95d88 2 (some .int), Cond.constantLong RJ13 314 (6148914691236517205), Cond.constantLong RJ13 316 (3689348814741910323), Cond.constantLong RJ13 318 (1085102592571150095), Cond.methodLink RX2 42 yJ13_numberOfTrailingZeros_95d88]
def wsX7_light_r3 : List Cond := [Cond.static yJ13_numberOfTrailingZeros_95d88, Cond.code yJ13_numberOfTrailingZeros_95d88 cJ13_numberOfTrailingZeros_95d88 3 (some .int), Cond.methodLink RJ13 311 yJ6_numberOfTrailingZeros_0f7a4, Cond.static yX7_has, Cond.code yX7_has cX7_has 3 (some .boolean)]
def wsX7_light : List Cond := .code yX7_light cX7_light 12 (some .int) :: ((wsX7_light_r1 ++ (wsX7_light_r2 ++ wsX7_light_r3)) ++ wsX70 ++ wsX20 ++ wsX30)
def wsX7_add_r1 : List Cond := [Cond.classLink RX7 86 "java/lang/IllegalStateException", Cond.initialized "java/lang/IllegalStateException", Cond.fieldLink RX7 19 "CycleHouse" "list" "LCycleHouse$SetList;", Cond.methodLink RX7 189 yX7_checkListed, Cond.instanceMethod yX7_checkListed, Cond.selects RX7 yX7_checkListed yX7_checkListed, Cond.initialized RX7, Cond.code yX7_checkListed cX7_checkListed 3 none, Cond.classLink RX7 62 "java/lang/IllegalArgumentException", Cond.initialized "java/lang/IllegalArgumentException", Cond.methodLink RX7 197 yX5_append, Cond.instanceMethod yX5_append, Cond.selects RX5 yX5_append yX5_append, Cond.initialized RX5, Cond.code yX5_append cX5_append 5 (some .int), Cond.fieldLink RX5 9 "CycleHouse$SetList" "row" "[J", Cond.fieldLink RX5 25 "CycleHouse$SetList" "rank" "I", Cond.fieldLink RX5 29 "CycleHouse$SetList" "sets" "I", Cond.methodLink RX5 15 yX5_rest, Cond.instanceMethod yX5_rest, Cond.selects RX5 yX5_rest yX5_rest, Cond.code yX5_rest cX5_rest 6 (some .long), Cond.static yX7_has, Cond.code yX7_has cX7_has 3 (some .boolean)]
def wsX7_add_r2 : List Cond := [Cond.methodLink RX5 19 yJ13_numberOfTrailingZeros_95d88, Cond.static yJ13_numberOfTrailingZeros_95d88, Cond.initialized RJ13, Cond.code yJ13_numberOfTrailingZeros_95d88 cJ13_numberOfTrailingZeros_95d88 3 (some .int), Cond.methodLink RJ13 311 yJ6_numberOfTrailingZeros_0f7a4, Cond.static yJ6_numberOfTrailingZeros_0f7a4, Cond.initialized RJ6, Cond.code yJ6_numberOfTrailingZeros_0f7a4 cJ6_numberOfTrailingZeros_0f7a4 2 (some .int), Cond.constant RJ6 264 (65536)]
def wsX7_clear : List Cond := .code yX7_clear cX7_clear 2 (some .int) :: ([.fieldLink RX7 19 "CycleHouse" "list" "LCycleHouse$SetList;", .methodLink RX7 199 yX5_empty, .instanceMethod yX5_empty, .selects RX5 yX5_empty yX5_empty, .initialized RX5, .code yX5_empty cX5_empty 1 none, .fieldLink RX5 29 "CycleHouse$SetList" "sets" "I", .fieldLink RX5 25 "CycleHouse$SetList" "rank" "I", .fieldLink RX5 9 "CycleHouse$SetList" "row" "[J", .methodLink RX5 32 yJ7_fill_d0a16, .static yJ7_fill_d0a16, .initialized RJ7, .code yJ7_fill_d0a16 cJ7_fill_d0a16 5 none] ++ wsX70 ++ wsX50)
def wsX7_countGroups_r1 : List Cond := [Cond.fieldLink RX7 26 "CycleHouse" "groups" "LCycleHouse$Groups;", Cond.methodLink RX7 91 yX7_joinWhole, Cond.instanceMethod yX7_joinWhole, Cond.selects RX7 yX7_joinWhole yX7_joinWhole, Cond.initialized RX7, Cond.code yX7_joinWhole cX7_joinWhole 1 (some .int), Cond.fieldLink RX7 10 "CycleHouse" "graph" "LCycleHouse$Graph;", Cond.methodLink RX7 114 yX7_joinSet, Cond.instanceMethod yX7_joinSet, Cond.selects RX7 yX7_joinSet yX7_joinSet, Cond.code yX7_joinSet cX7_joinSet 5 (some .int), Cond.methodLink RX7 230 yX3_part, Cond.instanceMethod yX3_part, Cond.selects RX3 yX3_part yX3_part, Cond.initialized RX3, Cond.code yX3_part cX3_part 3 none, Cond.fieldLink RX3 19 "CycleHouse$Groups" "vertices" "I", Cond.fieldLink RX3 23 "CycleHouse$Groups" "count" "I", Cond.fieldLink RX3 9 "CycleHouse$Groups" "name" "[I", Cond.fieldLink RX3 15 "CycleHouse$Groups" "way" "[J", Cond.methodLink RX7 233 yX7_has, Cond.static yX7_has, Cond.code yX7_has cX7_has 3 (some .boolean), Cond.methodLink RX7 237 yX3_join]
def wsX7_countGroups_r2 : List Cond := [Cond.instanceMethod yX3_join, Cond.selects RX3 yX3_join yX3_join, Cond.code yX3_join cX3_join 7 (some .long), Cond.methodLink RX3 34 yX3_together, Cond.instanceMethod yX3_together, Cond.selects RX3 yX3_together yX3_together, Cond.code yX3_together cX3_together 3 (some .boolean), Cond.methodLink RX3 38 yX3_merge, Cond.instanceMethod yX3_merge, Cond.selects RX3 yX3_merge yX3_merge, Cond.code yX3_merge cX3_merge 6 none]
def wsX7_countGroups : List Cond := .code yX7_countGroups cX7_countGroups 1 (some .int) :: ((wsX7_countGroups_r1 ++ wsX7_countGroups_r2) ++ wsX70 ++ wsX30 ++ wsX20)
def wsX7_countEdgesInNoCycle_r1 : List Cond := [Cond.fieldLink RX7 58 "CycleHouse" "rings" "[J", Cond.fieldLink RX7 10 "CycleHouse" "graph" "LCycleHouse$Graph;", Cond.methodLink RX7 176 yX7_fillRings, Cond.instanceMethod yX7_fillRings, Cond.selects RX7 yX7_fillRings yX7_fillRings, Cond.initialized RX7, Cond.code yX7_fillRings cX7_fillRings 5 (some .int), Cond.fieldLink RX7 26 "CycleHouse" "groups" "LCycleHouse$Groups;", Cond.methodLink RX7 230 yX3_part, Cond.instanceMethod yX3_part, Cond.selects RX3 yX3_part yX3_part, Cond.initialized RX3, Cond.code yX3_part cX3_part 3 none, Cond.fieldLink RX3 19 "CycleHouse$Groups" "vertices" "I", Cond.fieldLink RX3 23 "CycleHouse$Groups" "count" "I", Cond.fieldLink RX3 9 "CycleHouse$Groups" "name" "[I", Cond.fieldLink RX3 15 "CycleHouse$Groups" "way" "[J", Cond.methodLink RX7 237 yX3_join, Cond.instanceMethod yX3_join, Cond.selects RX3 yX3_join yX3_join, Cond.code yX3_join cX3_join 7 (some .long), Cond.methodLink RX3 34 yX3_together, Cond.instanceMethod yX3_together, Cond.selects RX3 yX3_together yX3_together]
def wsX7_countEdgesInNoCycle_r2 : List Cond := [Cond.code yX3_together cX3_together 3 (some .boolean), Cond.methodLink RX3 38 yX3_merge, Cond.instanceMethod yX3_merge, Cond.selects RX3 yX3_merge yX3_merge, Cond.code yX3_merge cX3_merge 6 none, Cond.methodLink RX7 246 yJ13_bitCount_95d88, Cond.static yJ13_bitCount_95d88, Cond.initialized RJ13, Cond.code yJ13_bitCount_95d88 cJ13_bitCount_95d88 2 (some .int), Cond.constantLong RJ13 314 (6148914691236517205), Cond.constantLong RJ13 316 (3689348814741910323), Cond.constantLong RJ13 318 (1085102592571150095)]
def wsX7_countEdgesInNoCycle : List Cond := .code yX7_countEdgesInNoCycle cX7_countEdgesInNoCycle 5 (some .int) :: ((wsX7_countEdgesInNoCycle_r1 ++ wsX7_countEdgesInNoCycle_r2) ++ wsX70 ++ wsX20 ++ wsX30)
def wsX7_hasOddCycle_r1 : List Cond := [Cond.fieldLink RX7 58 "CycleHouse" "rings" "[J", Cond.methodLink RX7 176 yX7_fillRings, Cond.instanceMethod yX7_fillRings, Cond.selects RX7 yX7_fillRings yX7_fillRings, Cond.initialized RX7, Cond.code yX7_fillRings cX7_fillRings 5 (some .int), Cond.fieldLink RX7 26 "CycleHouse" "groups" "LCycleHouse$Groups;", Cond.fieldLink RX7 10 "CycleHouse" "graph" "LCycleHouse$Graph;", Cond.methodLink RX7 230 yX3_part, Cond.instanceMethod yX3_part, Cond.selects RX3 yX3_part yX3_part, Cond.initialized RX3, Cond.code yX3_part cX3_part 3 none, Cond.fieldLink RX3 19 "CycleHouse$Groups" "vertices" "I", Cond.fieldLink RX3 23 "CycleHouse$Groups" "count" "I", Cond.fieldLink RX3 9 "CycleHouse$Groups" "name" "[I", Cond.fieldLink RX3 15 "CycleHouse$Groups" "way" "[J", Cond.methodLink RX7 237 yX3_join, Cond.instanceMethod yX3_join, Cond.selects RX3 yX3_join yX3_join, Cond.code yX3_join cX3_join 7 (some .long), Cond.methodLink RX3 34 yX3_together, Cond.instanceMethod yX3_together, Cond.selects RX3 yX3_together yX3_together]
def wsX7_hasOddCycle_r2 : List Cond := [Cond.code yX3_together cX3_together 3 (some .boolean), Cond.methodLink RX3 38 yX3_merge, Cond.instanceMethod yX3_merge, Cond.selects RX3 yX3_merge yX3_merge, Cond.code yX3_merge cX3_merge 6 none, Cond.methodLink RX7 246 yJ13_bitCount_95d88, Cond.static yJ13_bitCount_95d88, Cond.initialized RJ13, Cond.code yJ13_bitCount_95d88 cJ13_bitCount_95d88 2 (some .int), Cond.constantLong RJ13 314 (6148914691236517205), Cond.constantLong RJ13 316 (3689348814741910323), Cond.constantLong RJ13 318 (1085102592571150095)]
def wsX7_hasOddCycle : List Cond := .code yX7_hasOddCycle cX7_hasOddCycle 3 (some .boolean) :: ((wsX7_hasOddCycle_r1 ++ wsX7_hasOddCycle_r2) ++ wsX70 ++ wsX20 ++ wsX30)
def wsX7_countCuttingVertices_r1 : List Cond := [Cond.fieldLink RX7 10 "CycleHouse" "graph" "LCycleHouse$Graph;", Cond.fieldLink RX7 26 "CycleHouse" "groups" "LCycleHouse$Groups;", Cond.methodLink RX7 208 yX7_countGroups, Cond.instanceMethod yX7_countGroups, Cond.selects RX7 yX7_countGroups yX7_countGroups, Cond.initialized RX7, Cond.code yX7_countGroups cX7_countGroups 1 (some .int), Cond.methodLink RX7 91 yX7_joinWhole, Cond.instanceMethod yX7_joinWhole, Cond.selects RX7 yX7_joinWhole yX7_joinWhole, Cond.code yX7_joinWhole cX7_joinWhole 1 (some .int), Cond.methodLink RX7 114 yX7_joinSet, Cond.instanceMethod yX7_joinSet, Cond.selects RX7 yX7_joinSet yX7_joinSet, Cond.code yX7_joinSet cX7_joinSet 5 (some .int), Cond.methodLink RX7 230 yX3_part, Cond.instanceMethod yX3_part, Cond.selects RX3 yX3_part yX3_part, Cond.initialized RX3, Cond.code yX3_part cX3_part 3 none, Cond.fieldLink RX3 19 "CycleHouse$Groups" "vertices" "I", Cond.fieldLink RX3 23 "CycleHouse$Groups" "count" "I", Cond.fieldLink RX3 9 "CycleHouse$Groups" "name" "[I", Cond.fieldLink RX3 15 "CycleHouse$Groups" "way" "[J"]
def wsX7_countCuttingVertices_r2 : List Cond := [Cond.methodLink RX7 233 yX7_has, Cond.static yX7_has, Cond.code yX7_has cX7_has 3 (some .boolean), Cond.methodLink RX7 237 yX3_join, Cond.instanceMethod yX3_join, Cond.selects RX3 yX3_join yX3_join, Cond.code yX3_join cX3_join 7 (some .long), Cond.methodLink RX3 34 yX3_together, Cond.instanceMethod yX3_together, Cond.selects RX3 yX3_together yX3_together, Cond.code yX3_together cX3_together 3 (some .boolean), Cond.methodLink RX3 38 yX3_merge, Cond.instanceMethod yX3_merge, Cond.selects RX3 yX3_merge yX3_merge, Cond.code yX3_merge cX3_merge 6 none, Cond.methodLink RX7 251 yX2_edgesApartFrom, Cond.instanceMethod yX2_edgesApartFrom, Cond.selects RX2 yX2_edgesApartFrom yX2_edgesApartFrom, Cond.initialized RX2, Cond.code yX2_edgesApartFrom cX2_edgesApartFrom 5 (some .long), Cond.fieldLink RX2 25 "CycleHouse$Graph" "edges" "I", Cond.fieldLink RX2 15 "CycleHouse$Graph" "from" "[I", Cond.fieldLink RX2 19 "CycleHouse$Graph" "to" "[I"]
def wsX7_countCuttingVertices : List Cond := .code yX7_countCuttingVertices cX7_countCuttingVertices 4 (some .int) :: ((wsX7_countCuttingVertices_r1 ++ wsX7_countCuttingVertices_r2) ++ wsX70 ++ wsX20 ++ wsX30)
def wsX7_look_r1 : List Cond := [Cond.classLink RX7 62 "java/lang/IllegalArgumentException", Cond.initialized "java/lang/IllegalArgumentException", Cond.fieldLink RX7 10 "CycleHouse" "graph" "LCycleHouse$Graph;", Cond.fieldLink RX7 19 "CycleHouse" "list" "LCycleHouse$SetList;", Cond.methodLink RX7 208 yX7_countGroups, Cond.instanceMethod yX7_countGroups, Cond.selects RX7 yX7_countGroups yX7_countGroups, Cond.initialized RX7, Cond.code yX7_countGroups cX7_countGroups 1 (some .int), Cond.fieldLink RX7 26 "CycleHouse" "groups" "LCycleHouse$Groups;", Cond.methodLink RX7 91 yX7_joinWhole, Cond.instanceMethod yX7_joinWhole, Cond.selects RX7 yX7_joinWhole yX7_joinWhole, Cond.code yX7_joinWhole cX7_joinWhole 1 (some .int), Cond.methodLink RX7 114 yX7_joinSet, Cond.instanceMethod yX7_joinSet, Cond.selects RX7 yX7_joinSet yX7_joinSet, Cond.code yX7_joinSet cX7_joinSet 5 (some .int), Cond.methodLink RX7 230 yX3_part, Cond.instanceMethod yX3_part, Cond.selects RX3 yX3_part yX3_part, Cond.initialized RX3, Cond.code yX3_part cX3_part 3 none, Cond.fieldLink RX3 19 "CycleHouse$Groups" "vertices" "I"]
def wsX7_look_r2 : List Cond := [Cond.fieldLink RX3 23 "CycleHouse$Groups" "count" "I", Cond.fieldLink RX3 9 "CycleHouse$Groups" "name" "[I", Cond.fieldLink RX3 15 "CycleHouse$Groups" "way" "[J", Cond.methodLink RX7 233 yX7_has, Cond.static yX7_has, Cond.code yX7_has cX7_has 3 (some .boolean), Cond.methodLink RX7 237 yX3_join, Cond.instanceMethod yX3_join, Cond.selects RX3 yX3_join yX3_join, Cond.code yX3_join cX3_join 7 (some .long), Cond.methodLink RX3 34 yX3_together, Cond.instanceMethod yX3_together, Cond.selects RX3 yX3_together yX3_together, Cond.code yX3_together cX3_together 3 (some .boolean), Cond.methodLink RX3 38 yX3_merge, Cond.instanceMethod yX3_merge, Cond.selects RX3 yX3_merge yX3_merge, Cond.code yX3_merge cX3_merge 6 none, Cond.methodLink RX7 211 yX7_countEdgesInNoCycle, Cond.instanceMethod yX7_countEdgesInNoCycle, Cond.selects RX7 yX7_countEdgesInNoCycle yX7_countEdgesInNoCycle, Cond.code yX7_countEdgesInNoCycle cX7_countEdgesInNoCycle 5 (some .int), Cond.fieldLink RX7 58 "CycleHouse" "rings" "[J", Cond.methodLink RX7 176 yX7_fillRings]
def wsX7_look_r3 : List Cond := [Cond.instanceMethod yX7_fillRings, Cond.selects RX7 yX7_fillRings yX7_fillRings, Cond.code yX7_fillRings cX7_fillRings 5 (some .int), Cond.methodLink RX7 246 yJ13_bitCount_95d88, Cond.static yJ13_bitCount_95d88, Cond.initialized RJ13, Cond.code yJ13_bitCount_95d88 cJ13_bitCount_95d88 2 (some .int), Cond.constantLong RJ13 314 (6148914691236517205), Cond.constantLong RJ13 316 (3689348814741910323), Cond.constantLong RJ13 318 (1085102592571150095), Cond.methodLink RX7 214 yX7_hasOddCycle, Cond.instanceMethod yX7_hasOddCycle, Cond.selects RX7 yX7_hasOddCycle yX7_hasOddCycle, Cond.code yX7_hasOddCycle cX7_hasOddCycle 3 (some .boolean), Cond.methodLink RX7 221 yX7_countCuttingVertices, Cond.instanceMethod yX7_countCuttingVertices, Cond.selects RX7 yX7_countCuttingVertices yX7_countCuttingVertices, Cond.code yX7_countCuttingVertices cX7_countCuttingVertices 4 (some .int), Cond.methodLink RX7 251 yX2_edgesApartFrom, Cond.instanceMethod yX2_edgesApartFrom, Cond.selects RX2 yX2_edgesApartFrom yX2_edgesApartFrom, Cond.initialized RX2, Cond.code yX2_edgesApartFrom cX2_edgesApartFrom 5 (some .long), Cond.fieldLink RX2 25 "CycleHouse$Graph" "edges" "I"]
def wsX7_look_r4 : List Cond := [Cond.fieldLink RX2 15 "CycleHouse$Graph" "from" "[I", Cond.fieldLink RX2 19 "CycleHouse$Graph" "to" "[I"]
def wsX8_init : List Cond := .code yX8_init cX8_init 1 none :: ([.methodLink RX8 1 objectInit, .instanceMethod objectInit, .code objectInit ⟨#[0xb1]⟩ 1 none, .fieldLink RX8 7 "CycleHouseModel" "n" "I", .arrayClass .int, .fieldLink RX8 13 "CycleHouseModel" "from" "[I", .fieldLink RX8 17 "CycleHouseModel" "to" "[I", .fieldLink RX8 20 "CycleHouseModel" "weight" "[I", .arrayClass .long, .fieldLink RX8 23 "CycleHouseModel" "list" "[J", .fieldLink RX8 27 "CycleHouseModel" "group" "[I", .fieldLink RX8 30 "CycleHouseModel" "ways" "[J", .fieldLink RX8 33 "CycleHouseModel" "closing" "[J", .fieldLink RX8 36 "CycleHouseModel" "closer" "[I", .fieldLink RX8 39 "CycleHouseModel" "elements" "[J", .fieldLink RX8 42 "CycleHouseModel" "weights" "[J", .fieldLink RX8 45 "CycleHouseModel" "rows" "[J", .fieldLink RX8 48 "CycleHouseModel" "matrix" "[J", .fieldLink RX8 51 "CycleHouseModel" "place" "[I", .arrayClass .boolean, .fieldLink RX8 54 "CycleHouseModel" "reached" "[Z"] ++ wsX80)
def wsX8_thrown : List Cond := .code yX8_thrown cX8_thrown 1 (some .int) :: ([.fieldLink RX8 58 "CycleHouseModel" "thrown" "I"] ++ wsX80)
def wsX8_throwing : List Cond := .code yX8_throwing cX8_throwing 3 (some .boolean) :: ([.fieldLink RX8 58 "CycleHouseModel" "thrown" "I"] ++ wsX80)
def wsX8_isVertex : List Cond := .code yX8_isVertex cX8_isVertex 2 (some .boolean) :: ([.fieldLink RX8 7 "CycleHouseModel" "n" "I"] ++ wsX80)
def wsX8_isSet : List Cond := .code yX8_isSet cX8_isSet 3 (some .boolean) :: ([.fieldLink RX8 61 "CycleHouseModel" "m" "I"] ++ wsX80)
def wsX8_beginGroups : List Cond := .code yX8_beginGroups cX8_beginGroups 2 none :: ([.fieldLink RX8 64 "CycleHouseModel" "closed" "I", .fieldLink RX8 27 "CycleHouseModel" "group" "[I", .fieldLink RX8 30 "CycleHouseModel" "ways" "[J"] ++ wsX80)
def wsX8_joins : List Cond := .code yX8_joins cX8_joins 8 (some .boolean) :: ([.fieldLink RX8 13 "CycleHouseModel" "from" "[I", .fieldLink RX8 17 "CycleHouseModel" "to" "[I", .fieldLink RX8 27 "CycleHouseModel" "group" "[I", .fieldLink RX8 33 "CycleHouseModel" "closing" "[J", .fieldLink RX8 64 "CycleHouseModel" "closed" "I", .fieldLink RX8 30 "CycleHouseModel" "ways" "[J", .fieldLink RX8 36 "CycleHouseModel" "closer" "[I", .fieldLink RX8 7 "CycleHouseModel" "n" "I"] ++ wsX80)
def wsX8_groups : List Cond := .code yX8_groups cX8_groups 3 (some .int) :: ([.fieldLink RX8 7 "CycleHouseModel" "n" "I", .fieldLink RX8 61 "CycleHouseModel" "m" "I", .methodLink RX8 67 yX8_beginGroups, .instanceMethod yX8_beginGroups, .selects RX8 yX8_beginGroups yX8_beginGroups, .initialized RX8, .code yX8_beginGroups cX8_beginGroups 2 none, .fieldLink RX8 64 "CycleHouseModel" "closed" "I", .fieldLink RX8 27 "CycleHouseModel" "group" "[I", .fieldLink RX8 30 "CycleHouseModel" "ways" "[J", .methodLink RX8 70 yX8_joins, .instanceMethod yX8_joins, .selects RX8 yX8_joins yX8_joins, .code yX8_joins cX8_joins 8 (some .boolean), .fieldLink RX8 13 "CycleHouseModel" "from" "[I", .fieldLink RX8 17 "CycleHouseModel" "to" "[I", .fieldLink RX8 33 "CycleHouseModel" "closing" "[J", .fieldLink RX8 36 "CycleHouseModel" "closer" "[I"] ++ wsX80)
def wsX8_dimension : List Cond := .code yX8_dimension cX8_dimension 1 (some .int) :: ([.fieldLink RX8 61 "CycleHouseModel" "m" "I", .fieldLink RX8 7 "CycleHouseModel" "n" "I", .methodLink RX8 74 yX8_groups, .instanceMethod yX8_groups, .selects RX8 yX8_groups yX8_groups, .initialized RX8, .code yX8_groups cX8_groups 3 (some .int), .methodLink RX8 67 yX8_beginGroups, .instanceMethod yX8_beginGroups, .selects RX8 yX8_beginGroups yX8_beginGroups, .code yX8_beginGroups cX8_beginGroups 2 none, .fieldLink RX8 64 "CycleHouseModel" "closed" "I", .fieldLink RX8 27 "CycleHouseModel" "group" "[I", .fieldLink RX8 30 "CycleHouseModel" "ways" "[J", .methodLink RX8 70 yX8_joins, .instanceMethod yX8_joins, .selects RX8 yX8_joins yX8_joins, .code yX8_joins cX8_joins 8 (some .boolean), .fieldLink RX8 13 "CycleHouseModel" "from" "[I", .fieldLink RX8 17 "CycleHouseModel" "to" "[I", .fieldLink RX8 33 "CycleHouseModel" "closing" "[J", .fieldLink RX8 36 "CycleHouseModel" "closer" "[I"] ++ wsX80)
def wsX8_reset : List Cond := .code yX8_reset cX8_reset 3 (some .int) :: ([.fieldLink RX8 61 "CycleHouseModel" "m" "I", .fieldLink RX8 7 "CycleHouseModel" "n" "I", .methodLink RX8 78 yX8_throwing, .instanceMethod yX8_throwing, .selects RX8 yX8_throwing yX8_throwing, .initialized RX8, .code yX8_throwing cX8_throwing 3 (some .boolean), .fieldLink RX8 58 "CycleHouseModel" "thrown" "I"] ++ wsX80)
def wsX8_edge_r1 : List Cond := [Cond.constant RX8 85 (1000000000), Cond.fieldLink RX8 61 "CycleHouseModel" "m" "I", Cond.fieldLink RX8 27 "CycleHouseModel" "group" "[I", Cond.fieldLink RX8 13 "CycleHouseModel" "from" "[I", Cond.fieldLink RX8 17 "CycleHouseModel" "to" "[I", Cond.fieldLink RX8 20 "CycleHouseModel" "weight" "[I", Cond.methodLink RX8 82 yX8_isVertex, Cond.instanceMethod yX8_isVertex, Cond.selects RX8 yX8_isVertex yX8_isVertex, Cond.initialized RX8, Cond.code yX8_isVertex cX8_isVertex 2 (some .boolean), Cond.fieldLink RX8 7 "CycleHouseModel" "n" "I", Cond.methodLink RX8 86 yX8_dimension, Cond.instanceMethod yX8_dimension, Cond.selects RX8 yX8_dimension yX8_dimension, Cond.code yX8_dimension cX8_dimension 1 (some .int), Cond.methodLink RX8 74 yX8_groups, Cond.instanceMethod yX8_groups, Cond.selects RX8 yX8_groups yX8_groups, Cond.code yX8_groups cX8_groups 3 (some .int), Cond.methodLink RX8 67 yX8_beginGroups, Cond.instanceMethod yX8_beginGroups, Cond.selects RX8 yX8_beginGroups yX8_beginGroups, Cond.code yX8_beginGroups cX8_beginGroups 2 none]
def wsX8_edge_r2 : List Cond := [Cond.fieldLink RX8 64 "CycleHouseModel" "closed" "I", Cond.fieldLink RX8 30 "CycleHouseModel" "ways" "[J", Cond.methodLink RX8 70 yX8_joins, Cond.instanceMethod yX8_joins, Cond.selects RX8 yX8_joins yX8_joins, Cond.code yX8_joins cX8_joins 8 (some .boolean), Cond.fieldLink RX8 33 "CycleHouseModel" "closing" "[J", Cond.fieldLink RX8 36 "CycleHouseModel" "closer" "[I", Cond.methodLink RX8 78 yX8_throwing, Cond.instanceMethod yX8_throwing, Cond.selects RX8 yX8_throwing yX8_throwing, Cond.code yX8_throwing cX8_throwing 3 (some .boolean), Cond.fieldLink RX8 58 "CycleHouseModel" "thrown" "I"]
def wsX8_edge : List Cond := .code yX8_edge cX8_edge 7 (some .int) :: ((wsX8_edge_r1 ++ wsX8_edge_r2) ++ wsX80)
def wsX8_drop : List Cond := .code yX8_drop cX8_drop 1 (some .int) :: ([.fieldLink RX8 61 "CycleHouseModel" "m" "I", .methodLink RX8 78 yX8_throwing, .instanceMethod yX8_throwing, .selects RX8 yX8_throwing yX8_throwing, .initialized RX8, .code yX8_throwing cX8_throwing 3 (some .boolean), .fieldLink RX8 58 "CycleHouseModel" "thrown" "I"] ++ wsX80)
def wsX8_weightOf : List Cond := .code yX8_weightOf cX8_weightOf 6 (some .long) :: ([.fieldLink RX8 61 "CycleHouseModel" "m" "I", .fieldLink RX8 20 "CycleHouseModel" "weight" "[I"] ++ wsX80)
def wsX8_beginsWith : List Cond := .code yX8_beginsWith cX8_beginsWith 5 (some .boolean) :: ([.fieldLink RX8 61 "CycleHouseModel" "m" "I", .methodLink RX8 67 yX8_beginGroups, .instanceMethod yX8_beginGroups, .selects RX8 yX8_beginGroups yX8_beginGroups, .initialized RX8, .code yX8_beginGroups cX8_beginGroups 2 none, .fieldLink RX8 64 "CycleHouseModel" "closed" "I", .fieldLink RX8 27 "CycleHouseModel" "group" "[I", .fieldLink RX8 30 "CycleHouseModel" "ways" "[J", .methodLink RX8 70 yX8_joins, .instanceMethod yX8_joins, .selects RX8 yX8_joins yX8_joins, .code yX8_joins cX8_joins 8 (some .boolean), .fieldLink RX8 13 "CycleHouseModel" "from" "[I", .fieldLink RX8 17 "CycleHouseModel" "to" "[I", .fieldLink RX8 33 "CycleHouseModel" "closing" "[J", .fieldLink RX8 36 "CycleHouseModel" "closer" "[I", .fieldLink RX8 7 "CycleHouseModel" "n" "I"] ++ wsX80)
def wsX8_hang : List Cond := .code yX8_hang cX8_hang 5 (some .boolean) :: ([.fieldLink RX8 7 "CycleHouseModel" "n" "I", .fieldLink RX8 54 "CycleHouseModel" "reached" "[Z", .fieldLink RX8 61 "CycleHouseModel" "m" "I", .fieldLink RX8 13 "CycleHouseModel" "from" "[I", .fieldLink RX8 17 "CycleHouseModel" "to" "[I"] ++ wsX80)
def wsX8_isFirst : List Cond := .code yX8_isFirst cX8_isFirst 4 (some .boolean) :: ([.fieldLink RX8 27 "CycleHouseModel" "group" "[I", .methodLink RX8 107 yX8_hang, .instanceMethod yX8_hang, .selects RX8 yX8_hang yX8_hang, .initialized RX8, .code yX8_hang cX8_hang 5 (some .boolean), .fieldLink RX8 7 "CycleHouseModel" "n" "I", .fieldLink RX8 54 "CycleHouseModel" "reached" "[Z", .fieldLink RX8 61 "CycleHouseModel" "m" "I", .fieldLink RX8 13 "CycleHouseModel" "from" "[I", .fieldLink RX8 17 "CycleHouseModel" "to" "[I"] ++ wsX80)
def wsX8_lay : List Cond := .code yX8_lay cX8_lay 3 none :: ([.fieldLink RX8 48 "CycleHouseModel" "matrix" "[J"] ++ wsX80)
def wsX8_determinant : List Cond := .code yX8_determinant cX8_determinant 9 (some .long) :: ([.fieldLink RX8 48 "CycleHouseModel" "matrix" "[J"] ++ wsX80)
def wsX8_forests_r1 : List Cond := [Cond.fieldLink RX8 7 "CycleHouseModel" "n" "I", Cond.fieldLink RX8 51 "CycleHouseModel" "place" "[I", Cond.fieldLink RX8 27 "CycleHouseModel" "group" "[I", Cond.fieldLink RX8 48 "CycleHouseModel" "matrix" "[J", Cond.fieldLink RX8 61 "CycleHouseModel" "m" "I", Cond.fieldLink RX8 13 "CycleHouseModel" "from" "[I", Cond.fieldLink RX8 17 "CycleHouseModel" "to" "[I", Cond.methodLink RX8 89 yX8_isSet, Cond.instanceMethod yX8_isSet, Cond.selects RX8 yX8_isSet yX8_isSet, Cond.initialized RX8, Cond.code yX8_isSet cX8_isSet 3 (some .boolean), Cond.methodLink RX8 78 yX8_throwing, Cond.instanceMethod yX8_throwing, Cond.selects RX8 yX8_throwing yX8_throwing, Cond.code yX8_throwing cX8_throwing 3 (some .boolean), Cond.fieldLink RX8 58 "CycleHouseModel" "thrown" "I", Cond.methodLink RX8 93 yX8_beginsWith, Cond.instanceMethod yX8_beginsWith, Cond.selects RX8 yX8_beginsWith yX8_beginsWith, Cond.code yX8_beginsWith cX8_beginsWith 5 (some .boolean), Cond.methodLink RX8 67 yX8_beginGroups, Cond.instanceMethod yX8_beginGroups, Cond.selects RX8 yX8_beginGroups yX8_beginGroups]
def wsX8_forests_r2 : List Cond := [Cond.code yX8_beginGroups cX8_beginGroups 2 none, Cond.fieldLink RX8 64 "CycleHouseModel" "closed" "I", Cond.fieldLink RX8 30 "CycleHouseModel" "ways" "[J", Cond.methodLink RX8 70 yX8_joins, Cond.instanceMethod yX8_joins, Cond.selects RX8 yX8_joins yX8_joins, Cond.code yX8_joins cX8_joins 8 (some .boolean), Cond.fieldLink RX8 33 "CycleHouseModel" "closing" "[J", Cond.fieldLink RX8 36 "CycleHouseModel" "closer" "[I", Cond.methodLink RX8 96 yX8_isFirst, Cond.instanceMethod yX8_isFirst, Cond.selects RX8 yX8_isFirst yX8_isFirst, Cond.code yX8_isFirst cX8_isFirst 4 (some .boolean), Cond.methodLink RX8 107 yX8_hang, Cond.instanceMethod yX8_hang, Cond.selects RX8 yX8_hang yX8_hang, Cond.code yX8_hang cX8_hang 5 (some .boolean), Cond.fieldLink RX8 54 "CycleHouseModel" "reached" "[Z", Cond.methodLink RX8 99 yX8_lay, Cond.instanceMethod yX8_lay, Cond.selects RX8 yX8_lay yX8_lay, Cond.code yX8_lay cX8_lay 3 none, Cond.methodLink RX8 103 yX8_determinant, Cond.instanceMethod yX8_determinant]
def wsX8_forests_r3 : List Cond := [Cond.selects RX8 yX8_determinant yX8_determinant, Cond.code yX8_determinant cX8_determinant 9 (some .long)]
def wsX8_forests : List Cond := .code yX8_forests cX8_forests 7 (some .long) :: ((wsX8_forests_r1 ++ (wsX8_forests_r2 ++ wsX8_forests_r3)) ++ wsX80)
def wsX8_lightest_r1 : List Cond := [Cond.constantLong RX8 111 (-1), Cond.fieldLink RX8 61 "CycleHouseModel" "m" "I", Cond.fieldLink RX8 27 "CycleHouseModel" "group" "[I", Cond.fieldLink RX8 13 "CycleHouseModel" "from" "[I", Cond.fieldLink RX8 17 "CycleHouseModel" "to" "[I", Cond.fieldLink RX8 20 "CycleHouseModel" "weight" "[I", Cond.methodLink RX8 89 yX8_isSet, Cond.instanceMethod yX8_isSet, Cond.selects RX8 yX8_isSet yX8_isSet, Cond.initialized RX8, Cond.code yX8_isSet cX8_isSet 3 (some .boolean), Cond.methodLink RX8 78 yX8_throwing, Cond.instanceMethod yX8_throwing, Cond.selects RX8 yX8_throwing yX8_throwing, Cond.code yX8_throwing cX8_throwing 3 (some .boolean), Cond.fieldLink RX8 58 "CycleHouseModel" "thrown" "I", Cond.methodLink RX8 93 yX8_beginsWith, Cond.instanceMethod yX8_beginsWith, Cond.selects RX8 yX8_beginsWith yX8_beginsWith, Cond.code yX8_beginsWith cX8_beginsWith 5 (some .boolean), Cond.methodLink RX8 67 yX8_beginGroups, Cond.instanceMethod yX8_beginGroups, Cond.selects RX8 yX8_beginGroups yX8_beginGroups, Cond.code yX8_beginGroups cX8_beginGroups 2 none]
def wsX8_lightest_r2 : List Cond := [Cond.fieldLink RX8 64 "CycleHouseModel" "closed" "I", Cond.fieldLink RX8 30 "CycleHouseModel" "ways" "[J", Cond.methodLink RX8 70 yX8_joins, Cond.instanceMethod yX8_joins, Cond.selects RX8 yX8_joins yX8_joins, Cond.code yX8_joins cX8_joins 8 (some .boolean), Cond.fieldLink RX8 33 "CycleHouseModel" "closing" "[J", Cond.fieldLink RX8 36 "CycleHouseModel" "closer" "[I", Cond.fieldLink RX8 7 "CycleHouseModel" "n" "I", Cond.methodLink RX8 113 yX8_weightOf, Cond.instanceMethod yX8_weightOf, Cond.selects RX8 yX8_weightOf yX8_weightOf, Cond.code yX8_weightOf cX8_weightOf 6 (some .long)]
def wsX8_lightest : List Cond := .code yX8_lightest cX8_lightest 8 (some .long) :: ((wsX8_lightest_r1 ++ wsX8_lightest_r2) ++ wsX80)
def wsX8_spread_r1 : List Cond := [Cond.fieldLink RX8 39 "CycleHouseModel" "elements" "[J", Cond.fieldLink RX8 64 "CycleHouseModel" "closed" "I", Cond.fieldLink RX8 33 "CycleHouseModel" "closing" "[J", Cond.fieldLink RX8 42 "CycleHouseModel" "weights" "[J", Cond.methodLink RX8 86 yX8_dimension, Cond.instanceMethod yX8_dimension, Cond.selects RX8 yX8_dimension yX8_dimension, Cond.initialized RX8, Cond.code yX8_dimension cX8_dimension 1 (some .int), Cond.fieldLink RX8 61 "CycleHouseModel" "m" "I", Cond.fieldLink RX8 7 "CycleHouseModel" "n" "I", Cond.methodLink RX8 74 yX8_groups, Cond.instanceMethod yX8_groups, Cond.selects RX8 yX8_groups yX8_groups, Cond.code yX8_groups cX8_groups 3 (some .int), Cond.methodLink RX8 67 yX8_beginGroups, Cond.instanceMethod yX8_beginGroups, Cond.selects RX8 yX8_beginGroups yX8_beginGroups, Cond.code yX8_beginGroups cX8_beginGroups 2 none, Cond.fieldLink RX8 27 "CycleHouseModel" "group" "[I", Cond.fieldLink RX8 30 "CycleHouseModel" "ways" "[J", Cond.methodLink RX8 70 yX8_joins, Cond.instanceMethod yX8_joins, Cond.selects RX8 yX8_joins yX8_joins]
def wsX8_spread_r2 : List Cond := [Cond.code yX8_joins cX8_joins 8 (some .boolean), Cond.fieldLink RX8 13 "CycleHouseModel" "from" "[I", Cond.fieldLink RX8 17 "CycleHouseModel" "to" "[I", Cond.fieldLink RX8 36 "CycleHouseModel" "closer" "[I", Cond.methodLink RX8 113 yX8_weightOf, Cond.instanceMethod yX8_weightOf, Cond.selects RX8 yX8_weightOf yX8_weightOf, Cond.code yX8_weightOf cX8_weightOf 6 (some .long), Cond.fieldLink RX8 20 "CycleHouseModel" "weight" "[I"]
def wsX8_spread : List Cond := .code yX8_spread cX8_spread 4 (some .int) :: ((wsX8_spread_r1 ++ wsX8_spread_r2) ++ wsX80)
def wsX8_endsAt : List Cond := .code yX8_endsAt cX8_endsAt 6 (some .int) :: ([.fieldLink RX8 61 "CycleHouseModel" "m" "I", .fieldLink RX8 13 "CycleHouseModel" "from" "[I", .fieldLink RX8 17 "CycleHouseModel" "to" "[I"] ++ wsX80)
def wsX8_isEven : List Cond := .code yX8_isEven cX8_isEven 5 (some .boolean) :: ([.fieldLink RX8 7 "CycleHouseModel" "n" "I", .methodLink RX8 117 yX8_endsAt, .instanceMethod yX8_endsAt, .selects RX8 yX8_endsAt yX8_endsAt, .initialized RX8, .code yX8_endsAt cX8_endsAt 6 (some .int), .fieldLink RX8 61 "CycleHouseModel" "m" "I", .fieldLink RX8 13 "CycleHouseModel" "from" "[I", .fieldLink RX8 17 "CycleHouseModel" "to" "[I"] ++ wsX80)
def wsX8_isRing : List Cond := .code yX8_isRing cX8_isRing 7 (some .boolean) :: ([.fieldLink RX8 7 "CycleHouseModel" "n" "I", .fieldLink RX8 61 "CycleHouseModel" "m" "I", .methodLink RX8 117 yX8_endsAt, .instanceMethod yX8_endsAt, .selects RX8 yX8_endsAt yX8_endsAt, .initialized RX8, .code yX8_endsAt cX8_endsAt 6 (some .int), .fieldLink RX8 13 "CycleHouseModel" "from" "[I", .fieldLink RX8 17 "CycleHouseModel" "to" "[I", .methodLink RX8 67 yX8_beginGroups, .instanceMethod yX8_beginGroups, .selects RX8 yX8_beginGroups yX8_beginGroups, .code yX8_beginGroups cX8_beginGroups 2 none, .fieldLink RX8 64 "CycleHouseModel" "closed" "I", .fieldLink RX8 27 "CycleHouseModel" "group" "[I", .fieldLink RX8 30 "CycleHouseModel" "ways" "[J", .methodLink RX8 70 yX8_joins, .instanceMethod yX8_joins, .selects RX8 yX8_joins yX8_joins, .code yX8_joins cX8_joins 8 (some .boolean), .fieldLink RX8 33 "CycleHouseModel" "closing" "[J", .fieldLink RX8 36 "CycleHouseModel" "closer" "[I"] ++ wsX80)
def wsX8_isCycle_r1 : List Cond := [Cond.methodLink RX8 89 yX8_isSet, Cond.instanceMethod yX8_isSet, Cond.selects RX8 yX8_isSet yX8_isSet, Cond.initialized RX8, Cond.code yX8_isSet cX8_isSet 3 (some .boolean), Cond.fieldLink RX8 61 "CycleHouseModel" "m" "I", Cond.methodLink RX8 78 yX8_throwing, Cond.instanceMethod yX8_throwing, Cond.selects RX8 yX8_throwing yX8_throwing, Cond.code yX8_throwing cX8_throwing 3 (some .boolean), Cond.fieldLink RX8 58 "CycleHouseModel" "thrown" "I", Cond.methodLink RX8 121 yX8_isEven, Cond.instanceMethod yX8_isEven, Cond.selects RX8 yX8_isEven yX8_isEven, Cond.code yX8_isEven cX8_isEven 5 (some .boolean), Cond.fieldLink RX8 7 "CycleHouseModel" "n" "I", Cond.methodLink RX8 117 yX8_endsAt, Cond.instanceMethod yX8_endsAt, Cond.selects RX8 yX8_endsAt yX8_endsAt, Cond.code yX8_endsAt cX8_endsAt 6 (some .int), Cond.fieldLink RX8 13 "CycleHouseModel" "from" "[I", Cond.fieldLink RX8 17 "CycleHouseModel" "to" "[I", Cond.methodLink RX8 124 yX8_isRing, Cond.instanceMethod yX8_isRing]
def wsX8_isCycle_r2 : List Cond := [Cond.selects RX8 yX8_isRing yX8_isRing, Cond.code yX8_isRing cX8_isRing 7 (some .boolean), Cond.methodLink RX8 67 yX8_beginGroups, Cond.instanceMethod yX8_beginGroups, Cond.selects RX8 yX8_beginGroups yX8_beginGroups, Cond.code yX8_beginGroups cX8_beginGroups 2 none, Cond.fieldLink RX8 64 "CycleHouseModel" "closed" "I", Cond.fieldLink RX8 27 "CycleHouseModel" "group" "[I", Cond.fieldLink RX8 30 "CycleHouseModel" "ways" "[J", Cond.methodLink RX8 70 yX8_joins, Cond.instanceMethod yX8_joins, Cond.selects RX8 yX8_joins yX8_joins, Cond.code yX8_joins cX8_joins 8 (some .boolean), Cond.fieldLink RX8 33 "CycleHouseModel" "closing" "[J", Cond.fieldLink RX8 36 "CycleHouseModel" "closer" "[I"]
def wsX8_isCycle : List Cond := .code yX8_isCycle cX8_isCycle 3 (some .int) :: ((wsX8_isCycle_r1 ++ wsX8_isCycle_r2) ++ wsX80)
def wsX8_through_r1 : List Cond := [Cond.fieldLink RX8 61 "CycleHouseModel" "m" "I", Cond.constantLong RX8 111 (-1), Cond.fieldLink RX8 39 "CycleHouseModel" "elements" "[J", Cond.fieldLink RX8 42 "CycleHouseModel" "weights" "[J", Cond.methodLink RX8 78 yX8_throwing, Cond.instanceMethod yX8_throwing, Cond.selects RX8 yX8_throwing yX8_throwing, Cond.initialized RX8, Cond.code yX8_throwing cX8_throwing 3 (some .boolean), Cond.fieldLink RX8 58 "CycleHouseModel" "thrown" "I", Cond.methodLink RX8 127 yX8_spread, Cond.instanceMethod yX8_spread, Cond.selects RX8 yX8_spread yX8_spread, Cond.code yX8_spread cX8_spread 4 (some .int), Cond.fieldLink RX8 64 "CycleHouseModel" "closed" "I", Cond.fieldLink RX8 33 "CycleHouseModel" "closing" "[J", Cond.methodLink RX8 86 yX8_dimension, Cond.instanceMethod yX8_dimension, Cond.selects RX8 yX8_dimension yX8_dimension, Cond.code yX8_dimension cX8_dimension 1 (some .int), Cond.fieldLink RX8 7 "CycleHouseModel" "n" "I", Cond.methodLink RX8 74 yX8_groups, Cond.instanceMethod yX8_groups, Cond.selects RX8 yX8_groups yX8_groups]
def wsX8_through_r2 : List Cond := [Cond.code yX8_groups cX8_groups 3 (some .int), Cond.methodLink RX8 67 yX8_beginGroups, Cond.instanceMethod yX8_beginGroups, Cond.selects RX8 yX8_beginGroups yX8_beginGroups, Cond.code yX8_beginGroups cX8_beginGroups 2 none, Cond.fieldLink RX8 27 "CycleHouseModel" "group" "[I", Cond.fieldLink RX8 30 "CycleHouseModel" "ways" "[J", Cond.methodLink RX8 70 yX8_joins, Cond.instanceMethod yX8_joins, Cond.selects RX8 yX8_joins yX8_joins, Cond.code yX8_joins cX8_joins 8 (some .boolean), Cond.fieldLink RX8 13 "CycleHouseModel" "from" "[I", Cond.fieldLink RX8 17 "CycleHouseModel" "to" "[I", Cond.fieldLink RX8 36 "CycleHouseModel" "closer" "[I", Cond.methodLink RX8 113 yX8_weightOf, Cond.instanceMethod yX8_weightOf, Cond.selects RX8 yX8_weightOf yX8_weightOf, Cond.code yX8_weightOf cX8_weightOf 6 (some .long), Cond.fieldLink RX8 20 "CycleHouseModel" "weight" "[I"]
def wsX8_through : List Cond := .code yX8_through cX8_through 6 (some .long) :: ((wsX8_through_r1 ++ wsX8_through_r2) ++ wsX80)
def wsX8_rest : List Cond := .code yX8_rest cX8_rest 6 (some .long) :: ([.fieldLink RX8 130 "CycleHouseModel" "rowed" "I", .fieldLink RX8 45 "CycleHouseModel" "rows" "[J"] ++ wsX80)
def wsX8_take : List Cond := .code yX8_take cX8_take 6 (some .boolean) :: ([.fieldLink RX8 130 "CycleHouseModel" "rowed" "I", .fieldLink RX8 45 "CycleHouseModel" "rows" "[J", .methodLink RX8 133 yX8_rest, .instanceMethod yX8_rest, .selects RX8 yX8_rest yX8_rest, .initialized RX8, .code yX8_rest cX8_rest 6 (some .long)] ++ wsX80)
def wsX8_basis_r1 : List Cond := [Cond.fieldLink RX8 130 "CycleHouseModel" "rowed" "I", Cond.fieldLink RX8 42 "CycleHouseModel" "weights" "[J", Cond.methodLink RX8 86 yX8_dimension, Cond.instanceMethod yX8_dimension, Cond.selects RX8 yX8_dimension yX8_dimension, Cond.initialized RX8, Cond.code yX8_dimension cX8_dimension 1 (some .int), Cond.fieldLink RX8 61 "CycleHouseModel" "m" "I", Cond.fieldLink RX8 7 "CycleHouseModel" "n" "I", Cond.methodLink RX8 74 yX8_groups, Cond.instanceMethod yX8_groups, Cond.selects RX8 yX8_groups yX8_groups, Cond.code yX8_groups cX8_groups 3 (some .int), Cond.methodLink RX8 67 yX8_beginGroups, Cond.instanceMethod yX8_beginGroups, Cond.selects RX8 yX8_beginGroups yX8_beginGroups, Cond.code yX8_beginGroups cX8_beginGroups 2 none, Cond.fieldLink RX8 64 "CycleHouseModel" "closed" "I", Cond.fieldLink RX8 27 "CycleHouseModel" "group" "[I", Cond.fieldLink RX8 30 "CycleHouseModel" "ways" "[J", Cond.methodLink RX8 70 yX8_joins, Cond.instanceMethod yX8_joins, Cond.selects RX8 yX8_joins yX8_joins, Cond.code yX8_joins cX8_joins 8 (some .boolean)]
def wsX8_basis_r2 : List Cond := [Cond.fieldLink RX8 13 "CycleHouseModel" "from" "[I", Cond.fieldLink RX8 17 "CycleHouseModel" "to" "[I", Cond.fieldLink RX8 33 "CycleHouseModel" "closing" "[J", Cond.fieldLink RX8 36 "CycleHouseModel" "closer" "[I", Cond.methodLink RX8 78 yX8_throwing, Cond.instanceMethod yX8_throwing, Cond.selects RX8 yX8_throwing yX8_throwing, Cond.code yX8_throwing cX8_throwing 3 (some .boolean), Cond.fieldLink RX8 58 "CycleHouseModel" "thrown" "I", Cond.methodLink RX8 127 yX8_spread, Cond.instanceMethod yX8_spread, Cond.selects RX8 yX8_spread yX8_spread, Cond.code yX8_spread cX8_spread 4 (some .int), Cond.fieldLink RX8 39 "CycleHouseModel" "elements" "[J", Cond.methodLink RX8 113 yX8_weightOf, Cond.instanceMethod yX8_weightOf, Cond.selects RX8 yX8_weightOf yX8_weightOf, Cond.code yX8_weightOf cX8_weightOf 6 (some .long), Cond.fieldLink RX8 20 "CycleHouseModel" "weight" "[I", Cond.methodLink RX8 133 yX8_rest, Cond.instanceMethod yX8_rest, Cond.selects RX8 yX8_rest yX8_rest, Cond.code yX8_rest cX8_rest 6 (some .long), Cond.fieldLink RX8 45 "CycleHouseModel" "rows" "[J"]
def wsX8_basis_r3 : List Cond := [Cond.methodLink RX8 136 yX8_take, Cond.instanceMethod yX8_take, Cond.selects RX8 yX8_take yX8_take, Cond.code yX8_take cX8_take 6 (some .boolean)]
def wsX8_basis : List Cond := .code yX8_basis cX8_basis 9 (some .long) :: ((wsX8_basis_r1 ++ (wsX8_basis_r2 ++ wsX8_basis_r3)) ++ wsX80)
def wsX8_numberOf : List Cond := .code yX8_numberOf cX8_numberOf 5 (some .int) :: ([.fieldLink RX8 64 "CycleHouseModel" "closed" "I", .fieldLink RX8 36 "CycleHouseModel" "closer" "[I"] ++ wsX80)
def wsX8_belongs_r1 : List Cond := [Cond.fieldLink RX8 130 "CycleHouseModel" "rowed" "I", Cond.fieldLink RX8 42 "CycleHouseModel" "weights" "[J", Cond.methodLink RX8 89 yX8_isSet, Cond.instanceMethod yX8_isSet, Cond.selects RX8 yX8_isSet yX8_isSet, Cond.initialized RX8, Cond.code yX8_isSet cX8_isSet 3 (some .boolean), Cond.fieldLink RX8 61 "CycleHouseModel" "m" "I", Cond.methodLink RX8 78 yX8_throwing, Cond.instanceMethod yX8_throwing, Cond.selects RX8 yX8_throwing yX8_throwing, Cond.code yX8_throwing cX8_throwing 3 (some .boolean), Cond.fieldLink RX8 58 "CycleHouseModel" "thrown" "I", Cond.methodLink RX8 121 yX8_isEven, Cond.instanceMethod yX8_isEven, Cond.selects RX8 yX8_isEven yX8_isEven, Cond.code yX8_isEven cX8_isEven 5 (some .boolean), Cond.fieldLink RX8 7 "CycleHouseModel" "n" "I", Cond.methodLink RX8 117 yX8_endsAt, Cond.instanceMethod yX8_endsAt, Cond.selects RX8 yX8_endsAt yX8_endsAt, Cond.code yX8_endsAt cX8_endsAt 6 (some .int), Cond.fieldLink RX8 13 "CycleHouseModel" "from" "[I", Cond.fieldLink RX8 17 "CycleHouseModel" "to" "[I"]
def wsX8_belongs_r2 : List Cond := [Cond.methodLink RX8 127 yX8_spread, Cond.instanceMethod yX8_spread, Cond.selects RX8 yX8_spread yX8_spread, Cond.code yX8_spread cX8_spread 4 (some .int), Cond.fieldLink RX8 39 "CycleHouseModel" "elements" "[J", Cond.fieldLink RX8 64 "CycleHouseModel" "closed" "I", Cond.fieldLink RX8 33 "CycleHouseModel" "closing" "[J", Cond.methodLink RX8 86 yX8_dimension, Cond.instanceMethod yX8_dimension, Cond.selects RX8 yX8_dimension yX8_dimension, Cond.code yX8_dimension cX8_dimension 1 (some .int), Cond.methodLink RX8 74 yX8_groups, Cond.instanceMethod yX8_groups, Cond.selects RX8 yX8_groups yX8_groups, Cond.code yX8_groups cX8_groups 3 (some .int), Cond.methodLink RX8 67 yX8_beginGroups, Cond.instanceMethod yX8_beginGroups, Cond.selects RX8 yX8_beginGroups yX8_beginGroups, Cond.code yX8_beginGroups cX8_beginGroups 2 none, Cond.fieldLink RX8 27 "CycleHouseModel" "group" "[I", Cond.fieldLink RX8 30 "CycleHouseModel" "ways" "[J", Cond.methodLink RX8 70 yX8_joins, Cond.instanceMethod yX8_joins, Cond.selects RX8 yX8_joins yX8_joins]
def wsX8_belongs_r3 : List Cond := [Cond.code yX8_joins cX8_joins 8 (some .boolean), Cond.fieldLink RX8 36 "CycleHouseModel" "closer" "[I", Cond.methodLink RX8 113 yX8_weightOf, Cond.instanceMethod yX8_weightOf, Cond.selects RX8 yX8_weightOf yX8_weightOf, Cond.code yX8_weightOf cX8_weightOf 6 (some .long), Cond.fieldLink RX8 20 "CycleHouseModel" "weight" "[I", Cond.methodLink RX8 139 yX8_numberOf, Cond.instanceMethod yX8_numberOf, Cond.selects RX8 yX8_numberOf yX8_numberOf, Cond.code yX8_numberOf cX8_numberOf 5 (some .int), Cond.methodLink RX8 136 yX8_take, Cond.instanceMethod yX8_take, Cond.selects RX8 yX8_take yX8_take, Cond.code yX8_take cX8_take 6 (some .boolean), Cond.fieldLink RX8 45 "CycleHouseModel" "rows" "[J", Cond.methodLink RX8 133 yX8_rest, Cond.instanceMethod yX8_rest, Cond.selects RX8 yX8_rest yX8_rest, Cond.code yX8_rest cX8_rest 6 (some .long)]
def wsX8_belongs : List Cond := .code yX8_belongs cX8_belongs 7 (some .boolean) :: ((wsX8_belongs_r1 ++ (wsX8_belongs_r2 ++ wsX8_belongs_r3)) ++ wsX80)
def wsX8_cycles_r1 : List Cond := [Cond.fieldLink RX8 58 "CycleHouseModel" "thrown" "I", Cond.fieldLink RX8 39 "CycleHouseModel" "elements" "[J", Cond.methodLink RX8 127 yX8_spread, Cond.instanceMethod yX8_spread, Cond.selects RX8 yX8_spread yX8_spread, Cond.initialized RX8, Cond.code yX8_spread cX8_spread 4 (some .int), Cond.fieldLink RX8 64 "CycleHouseModel" "closed" "I", Cond.fieldLink RX8 33 "CycleHouseModel" "closing" "[J", Cond.fieldLink RX8 42 "CycleHouseModel" "weights" "[J", Cond.methodLink RX8 86 yX8_dimension, Cond.instanceMethod yX8_dimension, Cond.selects RX8 yX8_dimension yX8_dimension, Cond.code yX8_dimension cX8_dimension 1 (some .int), Cond.fieldLink RX8 61 "CycleHouseModel" "m" "I", Cond.fieldLink RX8 7 "CycleHouseModel" "n" "I", Cond.methodLink RX8 74 yX8_groups, Cond.instanceMethod yX8_groups, Cond.selects RX8 yX8_groups yX8_groups, Cond.code yX8_groups cX8_groups 3 (some .int), Cond.methodLink RX8 67 yX8_beginGroups, Cond.instanceMethod yX8_beginGroups, Cond.selects RX8 yX8_beginGroups yX8_beginGroups, Cond.code yX8_beginGroups cX8_beginGroups 2 none]
def wsX8_cycles_r2 : List Cond := [Cond.fieldLink RX8 27 "CycleHouseModel" "group" "[I", Cond.fieldLink RX8 30 "CycleHouseModel" "ways" "[J", Cond.methodLink RX8 70 yX8_joins, Cond.instanceMethod yX8_joins, Cond.selects RX8 yX8_joins yX8_joins, Cond.code yX8_joins cX8_joins 8 (some .boolean), Cond.fieldLink RX8 13 "CycleHouseModel" "from" "[I", Cond.fieldLink RX8 17 "CycleHouseModel" "to" "[I", Cond.fieldLink RX8 36 "CycleHouseModel" "closer" "[I", Cond.methodLink RX8 113 yX8_weightOf, Cond.instanceMethod yX8_weightOf, Cond.selects RX8 yX8_weightOf yX8_weightOf, Cond.code yX8_weightOf cX8_weightOf 6 (some .long), Cond.fieldLink RX8 20 "CycleHouseModel" "weight" "[I", Cond.methodLink RX8 124 yX8_isRing, Cond.instanceMethod yX8_isRing, Cond.selects RX8 yX8_isRing yX8_isRing, Cond.code yX8_isRing cX8_isRing 7 (some .boolean), Cond.methodLink RX8 117 yX8_endsAt, Cond.instanceMethod yX8_endsAt, Cond.selects RX8 yX8_endsAt yX8_endsAt, Cond.code yX8_endsAt cX8_endsAt 6 (some .int)]
def wsX8_cycles : List Cond := .code yX8_cycles cX8_cycles 4 (some .int) :: ((wsX8_cycles_r1 ++ wsX8_cycles_r2) ++ wsX80)
def wsX8_light_r1 : List Cond := [Cond.fieldLink RX8 58 "CycleHouseModel" "thrown" "I", Cond.fieldLink RX8 42 "CycleHouseModel" "weights" "[J", Cond.methodLink RX8 127 yX8_spread, Cond.instanceMethod yX8_spread, Cond.selects RX8 yX8_spread yX8_spread, Cond.initialized RX8, Cond.code yX8_spread cX8_spread 4 (some .int), Cond.fieldLink RX8 39 "CycleHouseModel" "elements" "[J", Cond.fieldLink RX8 64 "CycleHouseModel" "closed" "I", Cond.fieldLink RX8 33 "CycleHouseModel" "closing" "[J", Cond.methodLink RX8 86 yX8_dimension, Cond.instanceMethod yX8_dimension, Cond.selects RX8 yX8_dimension yX8_dimension, Cond.code yX8_dimension cX8_dimension 1 (some .int), Cond.fieldLink RX8 61 "CycleHouseModel" "m" "I", Cond.fieldLink RX8 7 "CycleHouseModel" "n" "I", Cond.methodLink RX8 74 yX8_groups, Cond.instanceMethod yX8_groups, Cond.selects RX8 yX8_groups yX8_groups, Cond.code yX8_groups cX8_groups 3 (some .int), Cond.methodLink RX8 67 yX8_beginGroups, Cond.instanceMethod yX8_beginGroups, Cond.selects RX8 yX8_beginGroups yX8_beginGroups, Cond.code yX8_beginGroups cX8_beginGroups 2 none]
def wsX8_light_r2 : List Cond := [Cond.fieldLink RX8 27 "CycleHouseModel" "group" "[I", Cond.fieldLink RX8 30 "CycleHouseModel" "ways" "[J", Cond.methodLink RX8 70 yX8_joins, Cond.instanceMethod yX8_joins, Cond.selects RX8 yX8_joins yX8_joins, Cond.code yX8_joins cX8_joins 8 (some .boolean), Cond.fieldLink RX8 13 "CycleHouseModel" "from" "[I", Cond.fieldLink RX8 17 "CycleHouseModel" "to" "[I", Cond.fieldLink RX8 36 "CycleHouseModel" "closer" "[I", Cond.methodLink RX8 113 yX8_weightOf, Cond.instanceMethod yX8_weightOf, Cond.selects RX8 yX8_weightOf yX8_weightOf, Cond.code yX8_weightOf cX8_weightOf 6 (some .long), Cond.fieldLink RX8 20 "CycleHouseModel" "weight" "[I"]
def wsX8_light : List Cond := .code yX8_light cX8_light 6 (some .int) :: ((wsX8_light_r1 ++ wsX8_light_r2) ++ wsX80)
def wsX8_add : List Cond := .code yX8_add cX8_add 3 (some .int) :: ([.fieldLink RX8 143 "CycleHouseModel" "listed" "I", .fieldLink RX8 23 "CycleHouseModel" "list" "[J", .methodLink RX8 78 yX8_throwing, .instanceMethod yX8_throwing, .selects RX8 yX8_throwing yX8_throwing, .initialized RX8, .code yX8_throwing cX8_throwing 3 (some .boolean), .fieldLink RX8 58 "CycleHouseModel" "thrown" "I"] ++ wsX80)
def wsX8_clear : List Cond := .code yX8_clear cX8_clear 2 (some .int) :: ([.fieldLink RX8 58 "CycleHouseModel" "thrown" "I", .fieldLink RX8 143 "CycleHouseModel" "listed" "I"] ++ wsX80)
def wsX8_takeList : List Cond := .code yX8_takeList cX8_takeList 3 none :: ([.fieldLink RX8 130 "CycleHouseModel" "rowed" "I", .fieldLink RX8 143 "CycleHouseModel" "listed" "I", .fieldLink RX8 23 "CycleHouseModel" "list" "[J", .methodLink RX8 136 yX8_take, .instanceMethod yX8_take, .selects RX8 yX8_take yX8_take, .initialized RX8, .code yX8_take cX8_take 6 (some .boolean), .fieldLink RX8 45 "CycleHouseModel" "rows" "[J", .methodLink RX8 133 yX8_rest, .instanceMethod yX8_rest, .selects RX8 yX8_rest yX8_rest, .code yX8_rest cX8_rest 6 (some .long)] ++ wsX80)
def wsX8_spans : List Cond := .code yX8_spans cX8_spans 3 (some .boolean) :: ([.methodLink RX8 78 yX8_throwing, .instanceMethod yX8_throwing, .selects RX8 yX8_throwing yX8_throwing, .initialized RX8, .code yX8_throwing cX8_throwing 3 (some .boolean), .fieldLink RX8 58 "CycleHouseModel" "thrown" "I", .methodLink RX8 146 yX8_takeList, .instanceMethod yX8_takeList, .selects RX8 yX8_takeList yX8_takeList, .code yX8_takeList cX8_takeList 3 none, .fieldLink RX8 130 "CycleHouseModel" "rowed" "I", .fieldLink RX8 143 "CycleHouseModel" "listed" "I", .fieldLink RX8 23 "CycleHouseModel" "list" "[J", .methodLink RX8 136 yX8_take, .instanceMethod yX8_take, .selects RX8 yX8_take yX8_take, .code yX8_take cX8_take 6 (some .boolean), .fieldLink RX8 45 "CycleHouseModel" "rows" "[J", .methodLink RX8 133 yX8_rest, .instanceMethod yX8_rest, .selects RX8 yX8_rest yX8_rest, .code yX8_rest cX8_rest 6 (some .long)] ++ wsX80)
def wsX8_alone : List Cond := .code yX8_alone cX8_alone 6 (some .int) :: ([.fieldLink RX8 61 "CycleHouseModel" "m" "I", .fieldLink RX8 7 "CycleHouseModel" "n" "I", .methodLink RX8 74 yX8_groups, .instanceMethod yX8_groups, .selects RX8 yX8_groups yX8_groups, .initialized RX8, .code yX8_groups cX8_groups 3 (some .int), .methodLink RX8 67 yX8_beginGroups, .instanceMethod yX8_beginGroups, .selects RX8 yX8_beginGroups yX8_beginGroups, .code yX8_beginGroups cX8_beginGroups 2 none, .fieldLink RX8 64 "CycleHouseModel" "closed" "I", .fieldLink RX8 27 "CycleHouseModel" "group" "[I", .fieldLink RX8 30 "CycleHouseModel" "ways" "[J", .methodLink RX8 70 yX8_joins, .instanceMethod yX8_joins, .selects RX8 yX8_joins yX8_joins, .code yX8_joins cX8_joins 8 (some .boolean), .fieldLink RX8 13 "CycleHouseModel" "from" "[I", .fieldLink RX8 17 "CycleHouseModel" "to" "[I", .fieldLink RX8 33 "CycleHouseModel" "closing" "[J", .fieldLink RX8 36 "CycleHouseModel" "closer" "[I"] ++ wsX80)
def wsX8_areEven : List Cond := .code yX8_areEven cX8_areEven 6 (some .boolean) :: ([.fieldLink RX8 64 "CycleHouseModel" "closed" "I", .fieldLink RX8 61 "CycleHouseModel" "m" "I", .fieldLink RX8 33 "CycleHouseModel" "closing" "[J", .methodLink RX8 74 yX8_groups, .instanceMethod yX8_groups, .selects RX8 yX8_groups yX8_groups, .initialized RX8, .code yX8_groups cX8_groups 3 (some .int), .fieldLink RX8 7 "CycleHouseModel" "n" "I", .methodLink RX8 67 yX8_beginGroups, .instanceMethod yX8_beginGroups, .selects RX8 yX8_beginGroups yX8_beginGroups, .code yX8_beginGroups cX8_beginGroups 2 none, .fieldLink RX8 27 "CycleHouseModel" "group" "[I", .fieldLink RX8 30 "CycleHouseModel" "ways" "[J", .methodLink RX8 70 yX8_joins, .instanceMethod yX8_joins, .selects RX8 yX8_joins yX8_joins, .code yX8_joins cX8_joins 8 (some .boolean), .fieldLink RX8 13 "CycleHouseModel" "from" "[I", .fieldLink RX8 17 "CycleHouseModel" "to" "[I", .fieldLink RX8 36 "CycleHouseModel" "closer" "[I"] ++ wsX80)
def wsX8_parting : List Cond := .code yX8_parting cX8_parting 6 (some .int) :: ([.fieldLink RX8 7 "CycleHouseModel" "n" "I", .fieldLink RX8 61 "CycleHouseModel" "m" "I", .fieldLink RX8 13 "CycleHouseModel" "from" "[I", .fieldLink RX8 17 "CycleHouseModel" "to" "[I", .methodLink RX8 74 yX8_groups, .instanceMethod yX8_groups, .selects RX8 yX8_groups yX8_groups, .initialized RX8, .code yX8_groups cX8_groups 3 (some .int), .methodLink RX8 67 yX8_beginGroups, .instanceMethod yX8_beginGroups, .selects RX8 yX8_beginGroups yX8_beginGroups, .code yX8_beginGroups cX8_beginGroups 2 none, .fieldLink RX8 64 "CycleHouseModel" "closed" "I", .fieldLink RX8 27 "CycleHouseModel" "group" "[I", .fieldLink RX8 30 "CycleHouseModel" "ways" "[J", .methodLink RX8 70 yX8_joins, .instanceMethod yX8_joins, .selects RX8 yX8_joins yX8_joins, .code yX8_joins cX8_joins 8 (some .boolean), .fieldLink RX8 33 "CycleHouseModel" "closing" "[J", .fieldLink RX8 36 "CycleHouseModel" "closer" "[I"] ++ wsX80)
def wsX8_rank : List Cond := .code yX8_rank cX8_rank 1 (some .int) :: ([.fieldLink RX8 130 "CycleHouseModel" "rowed" "I", .methodLink RX8 146 yX8_takeList, .instanceMethod yX8_takeList, .selects RX8 yX8_takeList yX8_takeList, .initialized RX8, .code yX8_takeList cX8_takeList 3 none, .fieldLink RX8 143 "CycleHouseModel" "listed" "I", .fieldLink RX8 23 "CycleHouseModel" "list" "[J", .methodLink RX8 136 yX8_take, .instanceMethod yX8_take, .selects RX8 yX8_take yX8_take, .code yX8_take cX8_take 6 (some .boolean), .fieldLink RX8 45 "CycleHouseModel" "rows" "[J", .methodLink RX8 133 yX8_rest, .instanceMethod yX8_rest, .selects RX8 yX8_rest yX8_rest, .code yX8_rest cX8_rest 6 (some .long)] ++ wsX80)
def wsX8_look_r1 : List Cond := [Cond.fieldLink RX8 7 "CycleHouseModel" "n" "I", Cond.fieldLink RX8 61 "CycleHouseModel" "m" "I", Cond.fieldLink RX8 143 "CycleHouseModel" "listed" "I", Cond.methodLink RX8 78 yX8_throwing, Cond.instanceMethod yX8_throwing, Cond.selects RX8 yX8_throwing yX8_throwing, Cond.initialized RX8, Cond.code yX8_throwing cX8_throwing 3 (some .boolean), Cond.fieldLink RX8 58 "CycleHouseModel" "thrown" "I", Cond.methodLink RX8 74 yX8_groups, Cond.instanceMethod yX8_groups, Cond.selects RX8 yX8_groups yX8_groups, Cond.code yX8_groups cX8_groups 3 (some .int), Cond.methodLink RX8 67 yX8_beginGroups, Cond.instanceMethod yX8_beginGroups, Cond.selects RX8 yX8_beginGroups yX8_beginGroups, Cond.code yX8_beginGroups cX8_beginGroups 2 none, Cond.fieldLink RX8 64 "CycleHouseModel" "closed" "I", Cond.fieldLink RX8 27 "CycleHouseModel" "group" "[I", Cond.fieldLink RX8 30 "CycleHouseModel" "ways" "[J", Cond.methodLink RX8 70 yX8_joins, Cond.instanceMethod yX8_joins, Cond.selects RX8 yX8_joins yX8_joins, Cond.code yX8_joins cX8_joins 8 (some .boolean)]
def wsX8_look_r2 : List Cond := [Cond.fieldLink RX8 13 "CycleHouseModel" "from" "[I", Cond.fieldLink RX8 17 "CycleHouseModel" "to" "[I", Cond.fieldLink RX8 33 "CycleHouseModel" "closing" "[J", Cond.fieldLink RX8 36 "CycleHouseModel" "closer" "[I", Cond.methodLink RX8 86 yX8_dimension, Cond.instanceMethod yX8_dimension, Cond.selects RX8 yX8_dimension yX8_dimension, Cond.code yX8_dimension cX8_dimension 1 (some .int), Cond.methodLink RX8 149 yX8_alone, Cond.instanceMethod yX8_alone, Cond.selects RX8 yX8_alone yX8_alone, Cond.code yX8_alone cX8_alone 6 (some .int), Cond.methodLink RX8 152 yX8_areEven, Cond.instanceMethod yX8_areEven, Cond.selects RX8 yX8_areEven yX8_areEven, Cond.code yX8_areEven cX8_areEven 6 (some .boolean), Cond.methodLink RX8 156 yX8_rank, Cond.instanceMethod yX8_rank, Cond.selects RX8 yX8_rank yX8_rank, Cond.code yX8_rank cX8_rank 1 (some .int), Cond.fieldLink RX8 130 "CycleHouseModel" "rowed" "I", Cond.methodLink RX8 146 yX8_takeList, Cond.instanceMethod yX8_takeList, Cond.selects RX8 yX8_takeList yX8_takeList]
def wsX8_look_r3 : List Cond := [Cond.code yX8_takeList cX8_takeList 3 none, Cond.fieldLink RX8 23 "CycleHouseModel" "list" "[J", Cond.methodLink RX8 136 yX8_take, Cond.instanceMethod yX8_take, Cond.selects RX8 yX8_take yX8_take, Cond.code yX8_take cX8_take 6 (some .boolean), Cond.fieldLink RX8 45 "CycleHouseModel" "rows" "[J", Cond.methodLink RX8 133 yX8_rest, Cond.instanceMethod yX8_rest, Cond.selects RX8 yX8_rest yX8_rest, Cond.code yX8_rest cX8_rest 6 (some .long), Cond.methodLink RX8 159 yX8_parting, Cond.instanceMethod yX8_parting, Cond.selects RX8 yX8_parting yX8_parting, Cond.code yX8_parting cX8_parting 6 (some .int)]
def wsX8_look : List Cond := .code yX8_look cX8_look 2 (some .int) :: ((wsX8_look_r1 ++ (wsX8_look_r2 ++ wsX8_look_r3)) ++ wsX80)
theorem dX0_init_0 : decode cX0_init 0 = .ok (.aload_n 0, 1) := by decide +kernel
theorem dX0_init_1 : decode cX0_init 1 = .ok (.invokespecial 3, 3) := by decide +kernel
theorem dX0_init_4 : decode cX0_init 4 = .ok (.aload_n 0, 1) := by decide +kernel
theorem dX0_init_5 : decode cX0_init 5 = .ok (.bipush 16, 2) := by decide +kernel
theorem dX0_init_7 : decode cX0_init 7 = .ok (.bipush 16, 2) := by decide +kernel
theorem dX0_init_9 : decode cX0_init 9 = .ok (.multianewarray 9 2, 4) := by decide +kernel
theorem dX0_init_13 : decode cX0_init 13 = .ok (.putfield 11, 3) := by decide +kernel
theorem dX0_init_16 : decode cX0_init 16 = .ok (.return_, 1) := by decide +kernel
set_option maxRecDepth 20000 in
theorem ggX0_count_J7_fill_53178 : GoodIn wsX0_count wsJ7_fill_53178 := goodIn_r _ [5] (by decide +kernel) (by decide +kernel)
set_option maxRecDepth 20000 in
theorem gX0_count_J7_fill_53178 : GoodIn wsX0_count (va_wsS RX0 16 yJ7_fill_53178 wsJ7_fill_53178) := goodIn_app (goodIn_of _ (by decide +kernel)) ggX0_count_J7_fill_53178
set_option maxRecDepth 20000 in
theorem ggX0_count_X0_paths : GoodIn wsX0_count wsX0_paths := goodIn_r _ [9, 6, 7, 8] (by decide +kernel) (by decide +kernel)
set_option maxRecDepth 20000 in
theorem gX0_count_X0_paths : GoodIn wsX0_count (va_wsS RX0 35 yX0_paths wsX0_paths) := goodIn_app (goodIn_of _ (by decide +kernel)) ggX0_count_X0_paths
theorem dX0_count_0 : decode cX0_count 0 = .ok (.iconst 0, 1) := by decide +kernel
theorem dX0_count_1 : decode cX0_count 1 = .ok (.istore_n 2, 1) := by decide +kernel
theorem dX0_count_2 : decode cX0_count 2 = .ok (.iload_n 2, 1) := by decide +kernel
theorem dX0_count_3 : decode cX0_count 3 = .ok (.bipush 16, 2) := by decide +kernel
theorem dX0_count_5 : decode cX0_count 5 = .ok (.if_icmp .ge 19, 3) := by decide +kernel
theorem dX0_count_8 : decode cX0_count 8 = .ok (.aload_n 0, 1) := by decide +kernel
theorem dX0_count_9 : decode cX0_count 9 = .ok (.getfield 11, 3) := by decide +kernel
theorem dX0_count_12 : decode cX0_count 12 = .ok (.iload_n 2, 1) := by decide +kernel
theorem dX0_count_13 : decode cX0_count 13 = .ok (.aaload, 1) := by decide +kernel
theorem dX0_count_14 : decode cX0_count 14 = .ok (.iconst 0, 1) := by decide +kernel
theorem dX0_count_15 : decode cX0_count 15 = .ok (.invokestatic 16, 3) := by decide +kernel
theorem dX0_count_18 : decode cX0_count 18 = .ok (.iinc 2 1, 3) := by decide +kernel
theorem dX0_count_21 : decode cX0_count 21 = .ok (.goto (-19), 3) := by decide +kernel
theorem dX0_count_24 : decode cX0_count 24 = .ok (.iconst 0, 1) := by decide +kernel
theorem dX0_count_25 : decode cX0_count 25 = .ok (.istore_n 2, 1) := by decide +kernel
theorem dX0_count_26 : decode cX0_count 26 = .ok (.iconst 0, 1) := by decide +kernel
theorem dX0_count_27 : decode cX0_count 27 = .ok (.istore_n 3, 1) := by decide +kernel
theorem dX0_count_28 : decode cX0_count 28 = .ok (.iload_n 3, 1) := by decide +kernel
theorem dX0_count_29 : decode cX0_count 29 = .ok (.aload_n 1, 1) := by decide +kernel
theorem dX0_count_30 : decode cX0_count 30 = .ok (.getfield 22, 3) := by decide +kernel
theorem dX0_count_33 : decode cX0_count 33 = .ok (.if_icmp .ge 79, 3) := by decide +kernel
theorem dX0_count_36 : decode cX0_count 36 = .ok (.aload_n 1, 1) := by decide +kernel
theorem dX0_count_37 : decode cX0_count 37 = .ok (.getfield 28, 3) := by decide +kernel
theorem dX0_count_40 : decode cX0_count 40 = .ok (.iload_n 3, 1) := by decide +kernel
theorem dX0_count_41 : decode cX0_count 41 = .ok (.iaload, 1) := by decide +kernel
theorem dX0_count_42 : decode cX0_count 42 = .ok (.istore 4, 2) := by decide +kernel
theorem dX0_count_44 : decode cX0_count 44 = .ok (.aload_n 1, 1) := by decide +kernel
theorem dX0_count_45 : decode cX0_count 45 = .ok (.getfield 32, 3) := by decide +kernel
theorem dX0_count_48 : decode cX0_count 48 = .ok (.iload_n 3, 1) := by decide +kernel
theorem dX0_count_49 : decode cX0_count 49 = .ok (.iaload, 1) := by decide +kernel
theorem dX0_count_50 : decode cX0_count 50 = .ok (.istore 5, 2) := by decide +kernel
theorem dX0_count_52 : decode cX0_count 52 = .ok (.iload_n 2, 1) := by decide +kernel
theorem dX0_count_53 : decode cX0_count 53 = .ok (.aload_n 0, 1) := by decide +kernel
theorem dX0_count_54 : decode cX0_count 54 = .ok (.getfield 11, 3) := by decide +kernel
theorem dX0_count_57 : decode cX0_count 57 = .ok (.iload 4, 2) := by decide +kernel
theorem dX0_count_59 : decode cX0_count 59 = .ok (.iload 5, 2) := by decide +kernel
theorem dX0_count_61 : decode cX0_count 61 = .ok (.iconst 1, 1) := by decide +kernel
theorem dX0_count_62 : decode cX0_count 62 = .ok (.iload 4, 2) := by decide +kernel
theorem dX0_count_64 : decode cX0_count 64 = .ok (.ishl, 1) := by decide +kernel
theorem dX0_count_65 : decode cX0_count 65 = .ok (.iconst 1, 1) := by decide +kernel
theorem dX0_count_66 : decode cX0_count 66 = .ok (.invokestatic 35, 3) := by decide +kernel
theorem dX0_count_69 : decode cX0_count 69 = .ok (.iadd, 1) := by decide +kernel
theorem dX0_count_70 : decode cX0_count 70 = .ok (.istore_n 2, 1) := by decide +kernel
theorem dX0_count_71 : decode cX0_count 71 = .ok (.aload_n 0, 1) := by decide +kernel
theorem dX0_count_72 : decode cX0_count 72 = .ok (.getfield 11, 3) := by decide +kernel
theorem dX0_count_75 : decode cX0_count 75 = .ok (.iload 4, 2) := by decide +kernel
theorem dX0_count_77 : decode cX0_count 77 = .ok (.aaload, 1) := by decide +kernel
theorem dX0_count_78 : decode cX0_count 78 = .ok (.iload 5, 2) := by decide +kernel
theorem dX0_count_80 : decode cX0_count 80 = .ok (.dup2, 1) := by decide +kernel
theorem dX0_count_81 : decode cX0_count 81 = .ok (.iaload, 1) := by decide +kernel
theorem dX0_count_82 : decode cX0_count 82 = .ok (.iconst 1, 1) := by decide +kernel
theorem dX0_count_83 : decode cX0_count 83 = .ok (.iadd, 1) := by decide +kernel
theorem dX0_count_84 : decode cX0_count 84 = .ok (.iastore, 1) := by decide +kernel
theorem dX0_count_85 : decode cX0_count 85 = .ok (.iload 4, 2) := by decide +kernel
theorem dX0_count_87 : decode cX0_count 87 = .ok (.iload 5, 2) := by decide +kernel
theorem dX0_count_89 : decode cX0_count 89 = .ok (.if_icmp .eq 17, 3) := by decide +kernel
theorem dX0_count_92 : decode cX0_count 92 = .ok (.aload_n 0, 1) := by decide +kernel
theorem dX0_count_93 : decode cX0_count 93 = .ok (.getfield 11, 3) := by decide +kernel
theorem dX0_count_96 : decode cX0_count 96 = .ok (.iload 5, 2) := by decide +kernel
theorem dX0_count_98 : decode cX0_count 98 = .ok (.aaload, 1) := by decide +kernel
theorem dX0_count_99 : decode cX0_count 99 = .ok (.iload 4, 2) := by decide +kernel
theorem dX0_count_101 : decode cX0_count 101 = .ok (.dup2, 1) := by decide +kernel
theorem dX0_count_102 : decode cX0_count 102 = .ok (.iaload, 1) := by decide +kernel
theorem dX0_count_103 : decode cX0_count 103 = .ok (.iconst 1, 1) := by decide +kernel
theorem dX0_count_104 : decode cX0_count 104 = .ok (.iadd, 1) := by decide +kernel
theorem dX0_count_105 : decode cX0_count 105 = .ok (.iastore, 1) := by decide +kernel
theorem dX0_count_106 : decode cX0_count 106 = .ok (.iinc 3 1, 3) := by decide +kernel
theorem dX0_count_109 : decode cX0_count 109 = .ok (.goto (-81), 3) := by decide +kernel
theorem dX0_count_112 : decode cX0_count 112 = .ok (.iload_n 2, 1) := by decide +kernel
theorem dX0_count_113 : decode cX0_count 113 = .ok (.ireturn, 1) := by decide +kernel
set_option maxRecDepth 20000 in
theorem ggX0_paths_X0_paths : GoodIn wsX0_paths wsX0_paths := goodIn_r _ [0, 1, 2, 3] (by decide +kernel) (by decide +kernel)
set_option maxRecDepth 20000 in
theorem gX0_paths_X0_paths : GoodIn wsX0_paths (va_wsS RX0 35 yX0_paths wsX0_paths) := goodIn_app (goodIn_of _ (by decide +kernel)) ggX0_paths_X0_paths
theorem dX0_paths_0 : decode cX0_paths 0 = .ok (.iload_n 1, 1) := by decide +kernel
theorem dX0_paths_1 : decode cX0_paths 1 = .ok (.iload_n 2, 1) := by decide +kernel
theorem dX0_paths_2 : decode cX0_paths 2 = .ok (.if_icmp .ne 5, 3) := by decide +kernel
theorem dX0_paths_5 : decode cX0_paths 5 = .ok (.iconst 1, 1) := by decide +kernel
theorem dX0_paths_6 : decode cX0_paths 6 = .ok (.ireturn, 1) := by decide +kernel
theorem dX0_paths_7 : decode cX0_paths 7 = .ok (.iload 4, 2) := by decide +kernel
theorem dX0_paths_9 : decode cX0_paths 9 = .ok (.bipush 16, 2) := by decide +kernel
theorem dX0_paths_11 : decode cX0_paths 11 = .ok (.if_icmp .lt 5, 3) := by decide +kernel
theorem dX0_paths_14 : decode cX0_paths 14 = .ok (.iconst 0, 1) := by decide +kernel
theorem dX0_paths_15 : decode cX0_paths 15 = .ok (.ireturn, 1) := by decide +kernel
theorem dX0_paths_16 : decode cX0_paths 16 = .ok (.iconst 0, 1) := by decide +kernel
theorem dX0_paths_17 : decode cX0_paths 17 = .ok (.istore 5, 2) := by decide +kernel
theorem dX0_paths_19 : decode cX0_paths 19 = .ok (.iconst 0, 1) := by decide +kernel
theorem dX0_paths_20 : decode cX0_paths 20 = .ok (.istore 6, 2) := by decide +kernel
theorem dX0_paths_22 : decode cX0_paths 22 = .ok (.iload 6, 2) := by decide +kernel
theorem dX0_paths_24 : decode cX0_paths 24 = .ok (.bipush 16, 2) := by decide +kernel
theorem dX0_paths_26 : decode cX0_paths 26 = .ok (.if_icmp .ge 56, 3) := by decide +kernel
theorem dX0_paths_29 : decode cX0_paths 29 = .ok (.aload_n 0, 1) := by decide +kernel
theorem dX0_paths_30 : decode cX0_paths 30 = .ok (.iload_n 1, 1) := by decide +kernel
theorem dX0_paths_31 : decode cX0_paths 31 = .ok (.aaload, 1) := by decide +kernel
theorem dX0_paths_32 : decode cX0_paths 32 = .ok (.iload 6, 2) := by decide +kernel
theorem dX0_paths_34 : decode cX0_paths 34 = .ok (.iaload, 1) := by decide +kernel
theorem dX0_paths_35 : decode cX0_paths 35 = .ok (.ifCond .eq 41, 3) := by decide +kernel
theorem dX0_paths_38 : decode cX0_paths 38 = .ok (.iload_n 3, 1) := by decide +kernel
theorem dX0_paths_39 : decode cX0_paths 39 = .ok (.iload 6, 2) := by decide +kernel
theorem dX0_paths_41 : decode cX0_paths 41 = .ok (.ishr, 1) := by decide +kernel
theorem dX0_paths_42 : decode cX0_paths 42 = .ok (.iconst 1, 1) := by decide +kernel
theorem dX0_paths_43 : decode cX0_paths 43 = .ok (.iand, 1) := by decide +kernel
theorem dX0_paths_44 : decode cX0_paths 44 = .ok (.ifCond .ne 32, 3) := by decide +kernel
theorem dX0_paths_47 : decode cX0_paths 47 = .ok (.iload 5, 2) := by decide +kernel
theorem dX0_paths_49 : decode cX0_paths 49 = .ok (.aload_n 0, 1) := by decide +kernel
theorem dX0_paths_50 : decode cX0_paths 50 = .ok (.iload_n 1, 1) := by decide +kernel
theorem dX0_paths_51 : decode cX0_paths 51 = .ok (.aaload, 1) := by decide +kernel
theorem dX0_paths_52 : decode cX0_paths 52 = .ok (.iload 6, 2) := by decide +kernel
theorem dX0_paths_54 : decode cX0_paths 54 = .ok (.iaload, 1) := by decide +kernel
theorem dX0_paths_55 : decode cX0_paths 55 = .ok (.aload_n 0, 1) := by decide +kernel
theorem dX0_paths_56 : decode cX0_paths 56 = .ok (.iload 6, 2) := by decide +kernel
theorem dX0_paths_58 : decode cX0_paths 58 = .ok (.iload_n 2, 1) := by decide +kernel
theorem dX0_paths_59 : decode cX0_paths 59 = .ok (.iload_n 3, 1) := by decide +kernel
theorem dX0_paths_60 : decode cX0_paths 60 = .ok (.iconst 1, 1) := by decide +kernel
theorem dX0_paths_61 : decode cX0_paths 61 = .ok (.iload 6, 2) := by decide +kernel
theorem dX0_paths_63 : decode cX0_paths 63 = .ok (.ishl, 1) := by decide +kernel
theorem dX0_paths_64 : decode cX0_paths 64 = .ok (.ior, 1) := by decide +kernel
theorem dX0_paths_65 : decode cX0_paths 65 = .ok (.iload 4, 2) := by decide +kernel
theorem dX0_paths_67 : decode cX0_paths 67 = .ok (.iconst 1, 1) := by decide +kernel
theorem dX0_paths_68 : decode cX0_paths 68 = .ok (.iadd, 1) := by decide +kernel
theorem dX0_paths_69 : decode cX0_paths 69 = .ok (.invokestatic 35, 3) := by decide +kernel
theorem dX0_paths_72 : decode cX0_paths 72 = .ok (.imul, 1) := by decide +kernel
theorem dX0_paths_73 : decode cX0_paths 73 = .ok (.iadd, 1) := by decide +kernel
theorem dX0_paths_74 : decode cX0_paths 74 = .ok (.istore 5, 2) := by decide +kernel
theorem dX0_paths_76 : decode cX0_paths 76 = .ok (.iinc 6 1, 3) := by decide +kernel
theorem dX0_paths_79 : decode cX0_paths 79 = .ok (.goto (-57), 3) := by decide +kernel
theorem dX0_paths_82 : decode cX0_paths 82 = .ok (.iload 5, 2) := by decide +kernel
theorem dX0_paths_84 : decode cX0_paths 84 = .ok (.ireturn, 1) := by decide +kernel
theorem dX1_init_0 : decode cX1_init 0 = .ok (.aload_n 0, 1) := by decide +kernel
theorem dX1_init_1 : decode cX1_init 1 = .ok (.invokespecial 3, 3) := by decide +kernel
theorem dX1_init_4 : decode cX1_init 4 = .ok (.aload_n 0, 1) := by decide +kernel
theorem dX1_init_5 : decode cX1_init 5 = .ok (.bipush 16, 2) := by decide +kernel
theorem dX1_init_7 : decode cX1_init 7 = .ok (.bipush 16, 2) := by decide +kernel
theorem dX1_init_9 : decode cX1_init 9 = .ok (.multianewarray 9 2, 4) := by decide +kernel
theorem dX1_init_13 : decode cX1_init 13 = .ok (.putfield 11, 3) := by decide +kernel
theorem dX1_init_16 : decode cX1_init 16 = .ok (.return_, 1) := by decide +kernel
set_option maxRecDepth 20000 in
theorem ggX1_count_J7_fill_d0a16 : GoodIn wsX1_count wsJ7_fill_d0a16 := goodIn_r _ [5] (by decide +kernel) (by decide +kernel)
set_option maxRecDepth 20000 in
theorem gX1_count_J7_fill_d0a16 : GoodIn wsX1_count (va_wsS RX1 22 yJ7_fill_d0a16 wsJ7_fill_d0a16) := goodIn_app (goodIn_of _ (by decide +kernel)) ggX1_count_J7_fill_d0a16
set_option maxRecDepth 20000 in
theorem ggX1_count_X1_determinant : GoodIn wsX1_count wsX1_determinant := goodIn_r _ [10, 1, 11, 12, 13, 9, 14, 20] (by decide +kernel) (by decide +kernel)
set_option maxRecDepth 20000 in
theorem gX1_count_X1_determinant : GoodIn wsX1_count (wsV RX1 43 RX1 yX1_determinant wsX1_determinant) := goodIn_app (goodIn_of _ (by decide +kernel)) ggX1_count_X1_determinant
theorem dX1_count_0 : decode cX1_count 0 = .ok (.iconst 0, 1) := by decide +kernel
theorem dX1_count_1 : decode cX1_count 1 = .ok (.istore_n 3, 1) := by decide +kernel
theorem dX1_count_2 : decode cX1_count 2 = .ok (.iload_n 3, 1) := by decide +kernel
theorem dX1_count_3 : decode cX1_count 3 = .ok (.aload_n 1, 1) := by decide +kernel
theorem dX1_count_4 : decode cX1_count 4 = .ok (.getfield 16, 3) := by decide +kernel
theorem dX1_count_7 : decode cX1_count 7 = .ok (.if_icmp .ge 19, 3) := by decide +kernel
theorem dX1_count_10 : decode cX1_count 10 = .ok (.aload_n 0, 1) := by decide +kernel
theorem dX1_count_11 : decode cX1_count 11 = .ok (.getfield 11, 3) := by decide +kernel
theorem dX1_count_14 : decode cX1_count 14 = .ok (.iload_n 3, 1) := by decide +kernel
theorem dX1_count_15 : decode cX1_count 15 = .ok (.aaload, 1) := by decide +kernel
theorem dX1_count_16 : decode cX1_count 16 = .ok (.lconst 0, 1) := by decide +kernel
theorem dX1_count_17 : decode cX1_count 17 = .ok (.invokestatic 22, 3) := by decide +kernel
theorem dX1_count_20 : decode cX1_count 20 = .ok (.iinc 3 1, 3) := by decide +kernel
theorem dX1_count_23 : decode cX1_count 23 = .ok (.goto (-21), 3) := by decide +kernel
theorem dX1_count_26 : decode cX1_count 26 = .ok (.iconst 0, 1) := by decide +kernel
theorem dX1_count_27 : decode cX1_count 27 = .ok (.istore_n 3, 1) := by decide +kernel
theorem dX1_count_28 : decode cX1_count 28 = .ok (.iload_n 3, 1) := by decide +kernel
theorem dX1_count_29 : decode cX1_count 29 = .ok (.aload_n 1, 1) := by decide +kernel
theorem dX1_count_30 : decode cX1_count 30 = .ok (.getfield 28, 3) := by decide +kernel
theorem dX1_count_33 : decode cX1_count 33 = .ok (.if_icmp .ge 98, 3) := by decide +kernel
theorem dX1_count_36 : decode cX1_count 36 = .ok (.aload_n 2, 1) := by decide +kernel
theorem dX1_count_37 : decode cX1_count 37 = .ok (.getfield 31, 3) := by decide +kernel
theorem dX1_count_40 : decode cX1_count 40 = .ok (.aload_n 1, 1) := by decide +kernel
theorem dX1_count_41 : decode cX1_count 41 = .ok (.getfield 37, 3) := by decide +kernel
theorem dX1_count_44 : decode cX1_count 44 = .ok (.iload_n 3, 1) := by decide +kernel
theorem dX1_count_45 : decode cX1_count 45 = .ok (.iaload, 1) := by decide +kernel
theorem dX1_count_46 : decode cX1_count 46 = .ok (.iaload, 1) := by decide +kernel
theorem dX1_count_47 : decode cX1_count 47 = .ok (.istore 4, 2) := by decide +kernel
theorem dX1_count_49 : decode cX1_count 49 = .ok (.aload_n 2, 1) := by decide +kernel
theorem dX1_count_50 : decode cX1_count 50 = .ok (.getfield 31, 3) := by decide +kernel
theorem dX1_count_53 : decode cX1_count 53 = .ok (.aload_n 1, 1) := by decide +kernel
theorem dX1_count_54 : decode cX1_count 54 = .ok (.getfield 40, 3) := by decide +kernel
theorem dX1_count_57 : decode cX1_count 57 = .ok (.iload_n 3, 1) := by decide +kernel
theorem dX1_count_58 : decode cX1_count 58 = .ok (.iaload, 1) := by decide +kernel
theorem dX1_count_59 : decode cX1_count 59 = .ok (.iaload, 1) := by decide +kernel
theorem dX1_count_60 : decode cX1_count 60 = .ok (.istore 5, 2) := by decide +kernel
theorem dX1_count_62 : decode cX1_count 62 = .ok (.iload 4, 2) := by decide +kernel
theorem dX1_count_64 : decode cX1_count 64 = .ok (.iload 5, 2) := by decide +kernel
theorem dX1_count_66 : decode cX1_count 66 = .ok (.if_icmp .eq 59, 3) := by decide +kernel
theorem dX1_count_69 : decode cX1_count 69 = .ok (.aload_n 0, 1) := by decide +kernel
theorem dX1_count_70 : decode cX1_count 70 = .ok (.getfield 11, 3) := by decide +kernel
theorem dX1_count_73 : decode cX1_count 73 = .ok (.iload 4, 2) := by decide +kernel
theorem dX1_count_75 : decode cX1_count 75 = .ok (.aaload, 1) := by decide +kernel
theorem dX1_count_76 : decode cX1_count 76 = .ok (.iload 4, 2) := by decide +kernel
theorem dX1_count_78 : decode cX1_count 78 = .ok (.dup2, 1) := by decide +kernel
theorem dX1_count_79 : decode cX1_count 79 = .ok (.laload, 1) := by decide +kernel
theorem dX1_count_80 : decode cX1_count 80 = .ok (.lconst 1, 1) := by decide +kernel
theorem dX1_count_81 : decode cX1_count 81 = .ok (.ladd, 1) := by decide +kernel
theorem dX1_count_82 : decode cX1_count 82 = .ok (.lastore, 1) := by decide +kernel
theorem dX1_count_83 : decode cX1_count 83 = .ok (.aload_n 0, 1) := by decide +kernel
theorem dX1_count_84 : decode cX1_count 84 = .ok (.getfield 11, 3) := by decide +kernel
theorem dX1_count_87 : decode cX1_count 87 = .ok (.iload 5, 2) := by decide +kernel
theorem dX1_count_89 : decode cX1_count 89 = .ok (.aaload, 1) := by decide +kernel
theorem dX1_count_90 : decode cX1_count 90 = .ok (.iload 5, 2) := by decide +kernel
theorem dX1_count_92 : decode cX1_count 92 = .ok (.dup2, 1) := by decide +kernel
theorem dX1_count_93 : decode cX1_count 93 = .ok (.laload, 1) := by decide +kernel
theorem dX1_count_94 : decode cX1_count 94 = .ok (.lconst 1, 1) := by decide +kernel
theorem dX1_count_95 : decode cX1_count 95 = .ok (.ladd, 1) := by decide +kernel
theorem dX1_count_96 : decode cX1_count 96 = .ok (.lastore, 1) := by decide +kernel
theorem dX1_count_97 : decode cX1_count 97 = .ok (.aload_n 0, 1) := by decide +kernel
theorem dX1_count_98 : decode cX1_count 98 = .ok (.getfield 11, 3) := by decide +kernel
theorem dX1_count_101 : decode cX1_count 101 = .ok (.iload 4, 2) := by decide +kernel
theorem dX1_count_103 : decode cX1_count 103 = .ok (.aaload, 1) := by decide +kernel
theorem dX1_count_104 : decode cX1_count 104 = .ok (.iload 5, 2) := by decide +kernel
theorem dX1_count_106 : decode cX1_count 106 = .ok (.dup2, 1) := by decide +kernel
theorem dX1_count_107 : decode cX1_count 107 = .ok (.laload, 1) := by decide +kernel
theorem dX1_count_108 : decode cX1_count 108 = .ok (.lconst 1, 1) := by decide +kernel
theorem dX1_count_109 : decode cX1_count 109 = .ok (.lsub, 1) := by decide +kernel
theorem dX1_count_110 : decode cX1_count 110 = .ok (.lastore, 1) := by decide +kernel
theorem dX1_count_111 : decode cX1_count 111 = .ok (.aload_n 0, 1) := by decide +kernel
theorem dX1_count_112 : decode cX1_count 112 = .ok (.getfield 11, 3) := by decide +kernel
theorem dX1_count_115 : decode cX1_count 115 = .ok (.iload 5, 2) := by decide +kernel
theorem dX1_count_117 : decode cX1_count 117 = .ok (.aaload, 1) := by decide +kernel
theorem dX1_count_118 : decode cX1_count 118 = .ok (.iload 4, 2) := by decide +kernel
theorem dX1_count_120 : decode cX1_count 120 = .ok (.dup2, 1) := by decide +kernel
theorem dX1_count_121 : decode cX1_count 121 = .ok (.laload, 1) := by decide +kernel
theorem dX1_count_122 : decode cX1_count 122 = .ok (.lconst 1, 1) := by decide +kernel
theorem dX1_count_123 : decode cX1_count 123 = .ok (.lsub, 1) := by decide +kernel
theorem dX1_count_124 : decode cX1_count 124 = .ok (.lastore, 1) := by decide +kernel
theorem dX1_count_125 : decode cX1_count 125 = .ok (.iinc 3 1, 3) := by decide +kernel
theorem dX1_count_128 : decode cX1_count 128 = .ok (.goto (-100), 3) := by decide +kernel
theorem dX1_count_131 : decode cX1_count 131 = .ok (.aload_n 0, 1) := by decide +kernel
theorem dX1_count_132 : decode cX1_count 132 = .ok (.aload_n 1, 1) := by decide +kernel
theorem dX1_count_133 : decode cX1_count 133 = .ok (.getfield 16, 3) := by decide +kernel
theorem dX1_count_136 : decode cX1_count 136 = .ok (.invokevirtual 43, 3) := by decide +kernel
theorem dX1_count_139 : decode cX1_count 139 = .ok (.lreturn, 1) := by decide +kernel
set_option maxRecDepth 20000 in
theorem ggX1_determinant_X1_eliminate : GoodIn wsX1_determinant wsX1_eliminate := goodIn_r _ [6, 1, 7] (by decide +kernel) (by decide +kernel)
set_option maxRecDepth 20000 in
theorem gX1_determinant_X1_eliminate : GoodIn wsX1_determinant (wsV RX1 47 RX1 yX1_eliminate wsX1_eliminate) := goodIn_app (goodIn_of _ (by decide +kernel)) ggX1_determinant_X1_eliminate
theorem dX1_determinant_0 : decode cX1_determinant 0 = .ok (.lconst 1, 1) := by decide +kernel
theorem dX1_determinant_1 : decode cX1_determinant 1 = .ok (.lstore_n 2, 1) := by decide +kernel
theorem dX1_determinant_2 : decode cX1_determinant 2 = .ok (.iconst 0, 1) := by decide +kernel
theorem dX1_determinant_3 : decode cX1_determinant 3 = .ok (.istore 4, 2) := by decide +kernel
theorem dX1_determinant_5 : decode cX1_determinant 5 = .ok (.iload 4, 2) := by decide +kernel
theorem dX1_determinant_7 : decode cX1_determinant 7 = .ok (.iload_n 1, 1) := by decide +kernel
theorem dX1_determinant_8 : decode cX1_determinant 8 = .ok (.if_icmp .ge 39, 3) := by decide +kernel
theorem dX1_determinant_11 : decode cX1_determinant 11 = .ok (.aload_n 0, 1) := by decide +kernel
theorem dX1_determinant_12 : decode cX1_determinant 12 = .ok (.getfield 11, 3) := by decide +kernel
theorem dX1_determinant_15 : decode cX1_determinant 15 = .ok (.iload 4, 2) := by decide +kernel
theorem dX1_determinant_17 : decode cX1_determinant 17 = .ok (.aaload, 1) := by decide +kernel
theorem dX1_determinant_18 : decode cX1_determinant 18 = .ok (.iload 4, 2) := by decide +kernel
theorem dX1_determinant_20 : decode cX1_determinant 20 = .ok (.laload, 1) := by decide +kernel
theorem dX1_determinant_21 : decode cX1_determinant 21 = .ok (.lstore 5, 2) := by decide +kernel
theorem dX1_determinant_23 : decode cX1_determinant 23 = .ok (.lload 5, 2) := by decide +kernel
theorem dX1_determinant_25 : decode cX1_determinant 25 = .ok (.lconst 0, 1) := by decide +kernel
theorem dX1_determinant_26 : decode cX1_determinant 26 = .ok (.lcmp, 1) := by decide +kernel
theorem dX1_determinant_27 : decode cX1_determinant 27 = .ok (.ifCond .eq 14, 3) := by decide +kernel
theorem dX1_determinant_30 : decode cX1_determinant 30 = .ok (.aload_n 0, 1) := by decide +kernel
theorem dX1_determinant_31 : decode cX1_determinant 31 = .ok (.iload 4, 2) := by decide +kernel
theorem dX1_determinant_33 : decode cX1_determinant 33 = .ok (.iload_n 1, 1) := by decide +kernel
theorem dX1_determinant_34 : decode cX1_determinant 34 = .ok (.lload_n 2, 1) := by decide +kernel
theorem dX1_determinant_35 : decode cX1_determinant 35 = .ok (.invokevirtual 47, 3) := by decide +kernel
theorem dX1_determinant_38 : decode cX1_determinant 38 = .ok (.lload 5, 2) := by decide +kernel
theorem dX1_determinant_40 : decode cX1_determinant 40 = .ok (.lstore_n 2, 1) := by decide +kernel
theorem dX1_determinant_41 : decode cX1_determinant 41 = .ok (.iinc 4 1, 3) := by decide +kernel
theorem dX1_determinant_44 : decode cX1_determinant 44 = .ok (.goto (-39), 3) := by decide +kernel
theorem dX1_determinant_47 : decode cX1_determinant 47 = .ok (.lload_n 2, 1) := by decide +kernel
theorem dX1_determinant_48 : decode cX1_determinant 48 = .ok (.lreturn, 1) := by decide +kernel
theorem dX1_eliminate_0 : decode cX1_eliminate 0 = .ok (.lload_n 3, 1) := by decide +kernel
theorem dX1_eliminate_1 : decode cX1_eliminate 1 = .ok (.lconst 0, 1) := by decide +kernel
theorem dX1_eliminate_2 : decode cX1_eliminate 2 = .ok (.lcmp, 1) := by decide +kernel
theorem dX1_eliminate_3 : decode cX1_eliminate 3 = .ok (.ifCond .ne 4, 3) := by decide +kernel
theorem dX1_eliminate_6 : decode cX1_eliminate 6 = .ok (.return_, 1) := by decide +kernel
theorem dX1_eliminate_7 : decode cX1_eliminate 7 = .ok (.iload_n 1, 1) := by decide +kernel
theorem dX1_eliminate_8 : decode cX1_eliminate 8 = .ok (.iconst 1, 1) := by decide +kernel
theorem dX1_eliminate_9 : decode cX1_eliminate 9 = .ok (.iadd, 1) := by decide +kernel
theorem dX1_eliminate_10 : decode cX1_eliminate 10 = .ok (.istore 5, 2) := by decide +kernel
theorem dX1_eliminate_12 : decode cX1_eliminate 12 = .ok (.iload 5, 2) := by decide +kernel
theorem dX1_eliminate_14 : decode cX1_eliminate 14 = .ok (.iload_n 2, 1) := by decide +kernel
theorem dX1_eliminate_15 : decode cX1_eliminate 15 = .ok (.if_icmp .ge 77, 3) := by decide +kernel
theorem dX1_eliminate_18 : decode cX1_eliminate 18 = .ok (.iload_n 1, 1) := by decide +kernel
theorem dX1_eliminate_19 : decode cX1_eliminate 19 = .ok (.iconst 1, 1) := by decide +kernel
theorem dX1_eliminate_20 : decode cX1_eliminate 20 = .ok (.iadd, 1) := by decide +kernel
theorem dX1_eliminate_21 : decode cX1_eliminate 21 = .ok (.istore 6, 2) := by decide +kernel
theorem dX1_eliminate_23 : decode cX1_eliminate 23 = .ok (.iload 6, 2) := by decide +kernel
theorem dX1_eliminate_25 : decode cX1_eliminate 25 = .ok (.iload_n 2, 1) := by decide +kernel
theorem dX1_eliminate_26 : decode cX1_eliminate 26 = .ok (.if_icmp .ge 60, 3) := by decide +kernel
theorem dX1_eliminate_29 : decode cX1_eliminate 29 = .ok (.aload_n 0, 1) := by decide +kernel
theorem dX1_eliminate_30 : decode cX1_eliminate 30 = .ok (.getfield 11, 3) := by decide +kernel
theorem dX1_eliminate_33 : decode cX1_eliminate 33 = .ok (.iload 5, 2) := by decide +kernel
theorem dX1_eliminate_35 : decode cX1_eliminate 35 = .ok (.aaload, 1) := by decide +kernel
theorem dX1_eliminate_36 : decode cX1_eliminate 36 = .ok (.iload 6, 2) := by decide +kernel
theorem dX1_eliminate_38 : decode cX1_eliminate 38 = .ok (.aload_n 0, 1) := by decide +kernel
theorem dX1_eliminate_39 : decode cX1_eliminate 39 = .ok (.getfield 11, 3) := by decide +kernel
theorem dX1_eliminate_42 : decode cX1_eliminate 42 = .ok (.iload 5, 2) := by decide +kernel
theorem dX1_eliminate_44 : decode cX1_eliminate 44 = .ok (.aaload, 1) := by decide +kernel
theorem dX1_eliminate_45 : decode cX1_eliminate 45 = .ok (.iload 6, 2) := by decide +kernel
theorem dX1_eliminate_47 : decode cX1_eliminate 47 = .ok (.laload, 1) := by decide +kernel
theorem dX1_eliminate_48 : decode cX1_eliminate 48 = .ok (.aload_n 0, 1) := by decide +kernel
theorem dX1_eliminate_49 : decode cX1_eliminate 49 = .ok (.getfield 11, 3) := by decide +kernel
theorem dX1_eliminate_52 : decode cX1_eliminate 52 = .ok (.iload_n 1, 1) := by decide +kernel
theorem dX1_eliminate_53 : decode cX1_eliminate 53 = .ok (.aaload, 1) := by decide +kernel
theorem dX1_eliminate_54 : decode cX1_eliminate 54 = .ok (.iload_n 1, 1) := by decide +kernel
theorem dX1_eliminate_55 : decode cX1_eliminate 55 = .ok (.laload, 1) := by decide +kernel
theorem dX1_eliminate_56 : decode cX1_eliminate 56 = .ok (.lmul, 1) := by decide +kernel
theorem dX1_eliminate_57 : decode cX1_eliminate 57 = .ok (.aload_n 0, 1) := by decide +kernel
theorem dX1_eliminate_58 : decode cX1_eliminate 58 = .ok (.getfield 11, 3) := by decide +kernel
theorem dX1_eliminate_61 : decode cX1_eliminate 61 = .ok (.iload 5, 2) := by decide +kernel
theorem dX1_eliminate_63 : decode cX1_eliminate 63 = .ok (.aaload, 1) := by decide +kernel
theorem dX1_eliminate_64 : decode cX1_eliminate 64 = .ok (.iload_n 1, 1) := by decide +kernel
theorem dX1_eliminate_65 : decode cX1_eliminate 65 = .ok (.laload, 1) := by decide +kernel
theorem dX1_eliminate_66 : decode cX1_eliminate 66 = .ok (.aload_n 0, 1) := by decide +kernel
theorem dX1_eliminate_67 : decode cX1_eliminate 67 = .ok (.getfield 11, 3) := by decide +kernel
theorem dX1_eliminate_70 : decode cX1_eliminate 70 = .ok (.iload_n 1, 1) := by decide +kernel
theorem dX1_eliminate_71 : decode cX1_eliminate 71 = .ok (.aaload, 1) := by decide +kernel
theorem dX1_eliminate_72 : decode cX1_eliminate 72 = .ok (.iload 6, 2) := by decide +kernel
theorem dX1_eliminate_74 : decode cX1_eliminate 74 = .ok (.laload, 1) := by decide +kernel
theorem dX1_eliminate_75 : decode cX1_eliminate 75 = .ok (.lmul, 1) := by decide +kernel
theorem dX1_eliminate_76 : decode cX1_eliminate 76 = .ok (.lsub, 1) := by decide +kernel
theorem dX1_eliminate_77 : decode cX1_eliminate 77 = .ok (.lload_n 3, 1) := by decide +kernel
theorem dX1_eliminate_78 : decode cX1_eliminate 78 = .ok (.ldiv, 1) := by decide +kernel
theorem dX1_eliminate_79 : decode cX1_eliminate 79 = .ok (.lastore, 1) := by decide +kernel
theorem dX1_eliminate_80 : decode cX1_eliminate 80 = .ok (.iinc 6 1, 3) := by decide +kernel
theorem dX1_eliminate_83 : decode cX1_eliminate 83 = .ok (.goto (-60), 3) := by decide +kernel
theorem dX1_eliminate_86 : decode cX1_eliminate 86 = .ok (.iinc 5 1, 3) := by decide +kernel
theorem dX1_eliminate_89 : decode cX1_eliminate 89 = .ok (.goto (-77), 3) := by decide +kernel
theorem dX1_eliminate_92 : decode cX1_eliminate 92 = .ok (.return_, 1) := by decide +kernel
theorem dX2_init_0 : decode cX2_init 0 = .ok (.aload_n 0, 1) := by decide +kernel
theorem dX2_init_1 : decode cX2_init 1 = .ok (.invokespecial 3, 3) := by decide +kernel
theorem dX2_init_4 : decode cX2_init 4 = .ok (.aload_n 0, 1) := by decide +kernel
theorem dX2_init_5 : decode cX2_init 5 = .ok (.iconst 1, 1) := by decide +kernel
theorem dX2_init_6 : decode cX2_init 6 = .ok (.putfield 9, 3) := by decide +kernel
theorem dX2_init_9 : decode cX2_init 9 = .ok (.aload_n 0, 1) := by decide +kernel
theorem dX2_init_10 : decode cX2_init 10 = .ok (.bipush 40, 2) := by decide +kernel
theorem dX2_init_12 : decode cX2_init 12 = .ok (.newarray .int, 2) := by decide +kernel
theorem dX2_init_14 : decode cX2_init 14 = .ok (.putfield 15, 3) := by decide +kernel
theorem dX2_init_17 : decode cX2_init 17 = .ok (.aload_n 0, 1) := by decide +kernel
theorem dX2_init_18 : decode cX2_init 18 = .ok (.bipush 40, 2) := by decide +kernel
theorem dX2_init_20 : decode cX2_init 20 = .ok (.newarray .int, 2) := by decide +kernel
theorem dX2_init_22 : decode cX2_init 22 = .ok (.putfield 19, 3) := by decide +kernel
theorem dX2_init_25 : decode cX2_init 25 = .ok (.aload_n 0, 1) := by decide +kernel
theorem dX2_init_26 : decode cX2_init 26 = .ok (.bipush 40, 2) := by decide +kernel
theorem dX2_init_28 : decode cX2_init 28 = .ok (.newarray .int, 2) := by decide +kernel
theorem dX2_init_30 : decode cX2_init 30 = .ok (.putfield 22, 3) := by decide +kernel
theorem dX2_init_33 : decode cX2_init 33 = .ok (.return_, 1) := by decide +kernel
theorem dX2_begin_0 : decode cX2_begin 0 = .ok (.aload_n 0, 1) := by decide +kernel
theorem dX2_begin_1 : decode cX2_begin 1 = .ok (.iload_n 1, 1) := by decide +kernel
theorem dX2_begin_2 : decode cX2_begin 2 = .ok (.putfield 9, 3) := by decide +kernel
theorem dX2_begin_5 : decode cX2_begin 5 = .ok (.aload_n 0, 1) := by decide +kernel
theorem dX2_begin_6 : decode cX2_begin 6 = .ok (.iconst 0, 1) := by decide +kernel
theorem dX2_begin_7 : decode cX2_begin 7 = .ok (.putfield 25, 3) := by decide +kernel
theorem dX2_begin_10 : decode cX2_begin 10 = .ok (.return_, 1) := by decide +kernel
theorem dX2_hasVertex_0 : decode cX2_hasVertex 0 = .ok (.iload_n 1, 1) := by decide +kernel
theorem dX2_hasVertex_1 : decode cX2_hasVertex 1 = .ok (.ifCond .lt 15, 3) := by decide +kernel
theorem dX2_hasVertex_4 : decode cX2_hasVertex 4 = .ok (.iload_n 1, 1) := by decide +kernel
theorem dX2_hasVertex_5 : decode cX2_hasVertex 5 = .ok (.aload_n 0, 1) := by decide +kernel
theorem dX2_hasVertex_6 : decode cX2_hasVertex 6 = .ok (.getfield 9, 3) := by decide +kernel
theorem dX2_hasVertex_9 : decode cX2_hasVertex 9 = .ok (.if_icmp .ge 7, 3) := by decide +kernel
theorem dX2_hasVertex_12 : decode cX2_hasVertex 12 = .ok (.iconst 1, 1) := by decide +kernel
theorem dX2_hasVertex_13 : decode cX2_hasVertex 13 = .ok (.goto 4, 3) := by decide +kernel
theorem dX2_hasVertex_16 : decode cX2_hasVertex 16 = .ok (.iconst 0, 1) := by decide +kernel
theorem dX2_hasVertex_17 : decode cX2_hasVertex 17 = .ok (.ireturn, 1) := by decide +kernel
theorem dX2_append_0 : decode cX2_append 0 = .ok (.aload_n 0, 1) := by decide +kernel
theorem dX2_append_1 : decode cX2_append 1 = .ok (.getfield 25, 3) := by decide +kernel
theorem dX2_append_4 : decode cX2_append 4 = .ok (.istore 4, 2) := by decide +kernel
theorem dX2_append_6 : decode cX2_append 6 = .ok (.aload_n 0, 1) := by decide +kernel
theorem dX2_append_7 : decode cX2_append 7 = .ok (.getfield 15, 3) := by decide +kernel
theorem dX2_append_10 : decode cX2_append 10 = .ok (.iload 4, 2) := by decide +kernel
theorem dX2_append_12 : decode cX2_append 12 = .ok (.iload_n 1, 1) := by decide +kernel
theorem dX2_append_13 : decode cX2_append 13 = .ok (.iastore, 1) := by decide +kernel
theorem dX2_append_14 : decode cX2_append 14 = .ok (.aload_n 0, 1) := by decide +kernel
theorem dX2_append_15 : decode cX2_append 15 = .ok (.getfield 19, 3) := by decide +kernel
theorem dX2_append_18 : decode cX2_append 18 = .ok (.iload 4, 2) := by decide +kernel
theorem dX2_append_20 : decode cX2_append 20 = .ok (.iload_n 2, 1) := by decide +kernel
theorem dX2_append_21 : decode cX2_append 21 = .ok (.iastore, 1) := by decide +kernel
theorem dX2_append_22 : decode cX2_append 22 = .ok (.aload_n 0, 1) := by decide +kernel
theorem dX2_append_23 : decode cX2_append 23 = .ok (.getfield 22, 3) := by decide +kernel
theorem dX2_append_26 : decode cX2_append 26 = .ok (.iload 4, 2) := by decide +kernel
theorem dX2_append_28 : decode cX2_append 28 = .ok (.iload_n 3, 1) := by decide +kernel
theorem dX2_append_29 : decode cX2_append 29 = .ok (.iastore, 1) := by decide +kernel
theorem dX2_append_30 : decode cX2_append 30 = .ok (.aload_n 0, 1) := by decide +kernel
theorem dX2_append_31 : decode cX2_append 31 = .ok (.dup, 1) := by decide +kernel
theorem dX2_append_32 : decode cX2_append 32 = .ok (.getfield 25, 3) := by decide +kernel
theorem dX2_append_35 : decode cX2_append 35 = .ok (.iconst 1, 1) := by decide +kernel
theorem dX2_append_36 : decode cX2_append 36 = .ok (.iadd, 1) := by decide +kernel
theorem dX2_append_37 : decode cX2_append 37 = .ok (.putfield 25, 3) := by decide +kernel
theorem dX2_append_40 : decode cX2_append 40 = .ok (.iload 4, 2) := by decide +kernel
theorem dX2_append_42 : decode cX2_append 42 = .ok (.ireturn, 1) := by decide +kernel
theorem dX2_removeLast_0 : decode cX2_removeLast 0 = .ok (.aload_n 0, 1) := by decide +kernel
theorem dX2_removeLast_1 : decode cX2_removeLast 1 = .ok (.dup, 1) := by decide +kernel
theorem dX2_removeLast_2 : decode cX2_removeLast 2 = .ok (.getfield 25, 3) := by decide +kernel
theorem dX2_removeLast_5 : decode cX2_removeLast 5 = .ok (.iconst 1, 1) := by decide +kernel
theorem dX2_removeLast_6 : decode cX2_removeLast 6 = .ok (.isub, 1) := by decide +kernel
theorem dX2_removeLast_7 : decode cX2_removeLast 7 = .ok (.putfield 25, 3) := by decide +kernel
theorem dX2_removeLast_10 : decode cX2_removeLast 10 = .ok (.aload_n 0, 1) := by decide +kernel
theorem dX2_removeLast_11 : decode cX2_removeLast 11 = .ok (.getfield 25, 3) := by decide +kernel
theorem dX2_removeLast_14 : decode cX2_removeLast 14 = .ok (.ireturn, 1) := by decide +kernel
set_option maxRecDepth 20000 in
theorem ggX2_isEven_X7_has : GoodIn wsX2_isEven wsX7_has := goodIn_r _ [6] (by decide +kernel) (by decide +kernel)
set_option maxRecDepth 20000 in
theorem gX2_isEven_X7_has_n28 : GoodIn wsX2_isEven (wsX7_has) := ggX2_isEven_X7_has
theorem dX2_isEven_0 : decode cX2_isEven 0 = .ok (.iconst 0, 1) := by decide +kernel
theorem dX2_isEven_1 : decode cX2_isEven 1 = .ok (.istore_n 3, 1) := by decide +kernel
theorem dX2_isEven_2 : decode cX2_isEven 2 = .ok (.iconst 0, 1) := by decide +kernel
theorem dX2_isEven_3 : decode cX2_isEven 3 = .ok (.istore 4, 2) := by decide +kernel
theorem dX2_isEven_5 : decode cX2_isEven 5 = .ok (.iload 4, 2) := by decide +kernel
theorem dX2_isEven_7 : decode cX2_isEven 7 = .ok (.aload_n 0, 1) := by decide +kernel
theorem dX2_isEven_8 : decode cX2_isEven 8 = .ok (.getfield 25, 3) := by decide +kernel
theorem dX2_isEven_11 : decode cX2_isEven 11 = .ok (.if_icmp .ge 42, 3) := by decide +kernel
theorem dX2_isEven_14 : decode cX2_isEven 14 = .ok (.lload_n 1, 1) := by decide +kernel
theorem dX2_isEven_15 : decode cX2_isEven 15 = .ok (.iload 4, 2) := by decide +kernel
theorem dX2_isEven_17 : decode cX2_isEven 17 = .ok (.invokestatic 28, 3) := by decide +kernel
theorem dX2_isEven_20 : decode cX2_isEven 20 = .ok (.ifCond .eq 27, 3) := by decide +kernel
theorem dX2_isEven_23 : decode cX2_isEven 23 = .ok (.iload_n 3, 1) := by decide +kernel
theorem dX2_isEven_24 : decode cX2_isEven 24 = .ok (.iconst 1, 1) := by decide +kernel
theorem dX2_isEven_25 : decode cX2_isEven 25 = .ok (.aload_n 0, 1) := by decide +kernel
theorem dX2_isEven_26 : decode cX2_isEven 26 = .ok (.getfield 15, 3) := by decide +kernel
theorem dX2_isEven_29 : decode cX2_isEven 29 = .ok (.iload 4, 2) := by decide +kernel
theorem dX2_isEven_31 : decode cX2_isEven 31 = .ok (.iaload, 1) := by decide +kernel
theorem dX2_isEven_32 : decode cX2_isEven 32 = .ok (.ishl, 1) := by decide +kernel
theorem dX2_isEven_33 : decode cX2_isEven 33 = .ok (.ixor, 1) := by decide +kernel
theorem dX2_isEven_34 : decode cX2_isEven 34 = .ok (.istore_n 3, 1) := by decide +kernel
theorem dX2_isEven_35 : decode cX2_isEven 35 = .ok (.iload_n 3, 1) := by decide +kernel
theorem dX2_isEven_36 : decode cX2_isEven 36 = .ok (.iconst 1, 1) := by decide +kernel
theorem dX2_isEven_37 : decode cX2_isEven 37 = .ok (.aload_n 0, 1) := by decide +kernel
theorem dX2_isEven_38 : decode cX2_isEven 38 = .ok (.getfield 19, 3) := by decide +kernel
theorem dX2_isEven_41 : decode cX2_isEven 41 = .ok (.iload 4, 2) := by decide +kernel
theorem dX2_isEven_43 : decode cX2_isEven 43 = .ok (.iaload, 1) := by decide +kernel
theorem dX2_isEven_44 : decode cX2_isEven 44 = .ok (.ishl, 1) := by decide +kernel
theorem dX2_isEven_45 : decode cX2_isEven 45 = .ok (.ixor, 1) := by decide +kernel
theorem dX2_isEven_46 : decode cX2_isEven 46 = .ok (.istore_n 3, 1) := by decide +kernel
theorem dX2_isEven_47 : decode cX2_isEven 47 = .ok (.iinc 4 1, 3) := by decide +kernel
theorem dX2_isEven_50 : decode cX2_isEven 50 = .ok (.goto (-45), 3) := by decide +kernel
theorem dX2_isEven_53 : decode cX2_isEven 53 = .ok (.iload_n 3, 1) := by decide +kernel
theorem dX2_isEven_54 : decode cX2_isEven 54 = .ok (.ifCond .ne 7, 3) := by decide +kernel
theorem dX2_isEven_57 : decode cX2_isEven 57 = .ok (.iconst 1, 1) := by decide +kernel
theorem dX2_isEven_58 : decode cX2_isEven 58 = .ok (.goto 4, 3) := by decide +kernel
theorem dX2_isEven_61 : decode cX2_isEven 61 = .ok (.iconst 0, 1) := by decide +kernel
theorem dX2_isEven_62 : decode cX2_isEven 62 = .ok (.ireturn, 1) := by decide +kernel
set_option maxRecDepth 20000 in
theorem ggX2_weigh_X2_gain : GoodIn wsX2_weigh wsX2_gain := goodIn_r _ [5, 6, 7, 8, 9, 10, 11, 12, 13, 14, 15, 16, 17, 18, 19, 20, 21, 22, 23, 24, 25, 26, 27, 28, 29] (by decide +kernel) (by decide +kernel)
set_option maxRecDepth 20000 in
theorem gX2_weigh_X2_gain : GoodIn wsX2_weigh (wsV RX2 32 RX2 yX2_gain wsX2_gain) := goodIn_app (goodIn_of _ (by decide +kernel)) ggX2_weigh_X2_gain
theorem dX2_weigh_0 : decode cX2_weigh 0 = .ok (.aload_n 0, 1) := by decide +kernel
theorem dX2_weigh_1 : decode cX2_weigh 1 = .ok (.lload_n 1, 1) := by decide +kernel
theorem dX2_weigh_2 : decode cX2_weigh 2 = .ok (.lload_n 1, 1) := by decide +kernel
theorem dX2_weigh_3 : decode cX2_weigh 3 = .ok (.invokevirtual 32, 3) := by decide +kernel
theorem dX2_weigh_6 : decode cX2_weigh 6 = .ok (.lreturn, 1) := by decide +kernel
set_option maxRecDepth 20000 in
theorem ggX2_gain_J13_bitCount_95d88 : GoodIn wsX2_gain wsJ13_bitCount_95d88 := goodIn_r _ [5, 6, 7, 8] (by decide +kernel) (by decide +kernel)
set_option maxRecDepth 20000 in
theorem gX2_gain_J13_bitCount_95d88 : GoodIn wsX2_gain (va_wsS RX2 36 yJ13_bitCount_95d88 wsJ13_bitCount_95d88) := goodIn_app (goodIn_of _ (by decide +kernel)) ggX2_gain_J13_bitCount_95d88
set_option maxRecDepth 20000 in
theorem ggX2_gain_J13_numberOfTrailingZeros_95d88 : GoodIn wsX2_gain wsJ13_numberOfTrailingZeros_95d88 := goodIn_r _ [11, 12, 13, 14, 15, 16] (by decide +kernel) (by decide +kernel)
set_option maxRecDepth 20000 in
theorem gX2_gain_J13_numberOfTrailingZeros_95d88 : GoodIn wsX2_gain (va_wsS RX2 42 yJ13_numberOfTrailingZeros_95d88 wsJ13_numberOfTrailingZeros_95d88) := goodIn_app (goodIn_of _ (by decide +kernel)) ggX2_gain_J13_numberOfTrailingZeros_95d88
set_option maxRecDepth 20000 in
theorem ggX2_gain_X7_has : GoodIn wsX2_gain wsX7_has := goodIn_r _ [19] (by decide +kernel) (by decide +kernel)
set_option maxRecDepth 20000 in
theorem gX2_gain_X7_has_n28 : GoodIn wsX2_gain (wsX7_has) := ggX2_gain_X7_has
theorem dX2_gain_0 : decode cX2_gain 0 = .ok (.lconst 0, 1) := by decide +kernel
theorem dX2_gain_1 : decode cX2_gain 1 = .ok (.lstore 5, 2) := by decide +kernel
theorem dX2_gain_3 : decode cX2_gain 3 = .ok (.lload_n 1, 1) := by decide +kernel
theorem dX2_gain_4 : decode cX2_gain 4 = .ok (.lstore 7, 2) := by decide +kernel
theorem dX2_gain_6 : decode cX2_gain 6 = .ok (.lload_n 1, 1) := by decide +kernel
theorem dX2_gain_7 : decode cX2_gain 7 = .ok (.invokestatic 36, 3) := by decide +kernel
theorem dX2_gain_10 : decode cX2_gain 10 = .ok (.istore 9, 2) := by decide +kernel
theorem dX2_gain_12 : decode cX2_gain 12 = .ok (.iload 9, 2) := by decide +kernel
theorem dX2_gain_14 : decode cX2_gain 14 = .ok (.ifCond .le 59, 3) := by decide +kernel
theorem dX2_gain_17 : decode cX2_gain 17 = .ok (.lload 7, 2) := by decide +kernel
theorem dX2_gain_19 : decode cX2_gain 19 = .ok (.invokestatic 42, 3) := by decide +kernel
theorem dX2_gain_22 : decode cX2_gain 22 = .ok (.istore 10, 2) := by decide +kernel
theorem dX2_gain_24 : decode cX2_gain 24 = .ok (.lload 5, 2) := by decide +kernel
theorem dX2_gain_26 : decode cX2_gain 26 = .ok (.lload_n 3, 1) := by decide +kernel
theorem dX2_gain_27 : decode cX2_gain 27 = .ok (.iload 10, 2) := by decide +kernel
theorem dX2_gain_29 : decode cX2_gain 29 = .ok (.invokestatic 28, 3) := by decide +kernel
theorem dX2_gain_32 : decode cX2_gain 32 = .ok (.ifCond .eq 14, 3) := by decide +kernel
theorem dX2_gain_35 : decode cX2_gain 35 = .ok (.aload_n 0, 1) := by decide +kernel
theorem dX2_gain_36 : decode cX2_gain 36 = .ok (.getfield 22, 3) := by decide +kernel
theorem dX2_gain_39 : decode cX2_gain 39 = .ok (.iload 10, 2) := by decide +kernel
theorem dX2_gain_41 : decode cX2_gain 41 = .ok (.iaload, 1) := by decide +kernel
theorem dX2_gain_42 : decode cX2_gain 42 = .ok (.i2l, 1) := by decide +kernel
theorem dX2_gain_43 : decode cX2_gain 43 = .ok (.goto 12, 3) := by decide +kernel
theorem dX2_gain_46 : decode cX2_gain 46 = .ok (.aload_n 0, 1) := by decide +kernel
theorem dX2_gain_47 : decode cX2_gain 47 = .ok (.getfield 22, 3) := by decide +kernel
theorem dX2_gain_50 : decode cX2_gain 50 = .ok (.iload 10, 2) := by decide +kernel
theorem dX2_gain_52 : decode cX2_gain 52 = .ok (.iaload, 1) := by decide +kernel
theorem dX2_gain_53 : decode cX2_gain 53 = .ok (.ineg, 1) := by decide +kernel
theorem dX2_gain_54 : decode cX2_gain 54 = .ok (.i2l, 1) := by decide +kernel
theorem dX2_gain_55 : decode cX2_gain 55 = .ok (.ladd, 1) := by decide +kernel
theorem dX2_gain_56 : decode cX2_gain 56 = .ok (.lstore 5, 2) := by decide +kernel
theorem dX2_gain_58 : decode cX2_gain 58 = .ok (.lload 7, 2) := by decide +kernel
theorem dX2_gain_60 : decode cX2_gain 60 = .ok (.lload 7, 2) := by decide +kernel
theorem dX2_gain_62 : decode cX2_gain 62 = .ok (.lconst 1, 1) := by decide +kernel
theorem dX2_gain_63 : decode cX2_gain 63 = .ok (.lsub, 1) := by decide +kernel
theorem dX2_gain_64 : decode cX2_gain 64 = .ok (.land, 1) := by decide +kernel
theorem dX2_gain_65 : decode cX2_gain 65 = .ok (.lstore 7, 2) := by decide +kernel
theorem dX2_gain_67 : decode cX2_gain 67 = .ok (.iinc 9 (-1), 3) := by decide +kernel
theorem dX2_gain_70 : decode cX2_gain 70 = .ok (.goto (-58), 3) := by decide +kernel
theorem dX2_gain_73 : decode cX2_gain 73 = .ok (.lload 5, 2) := by decide +kernel
theorem dX2_gain_75 : decode cX2_gain 75 = .ok (.lreturn, 1) := by decide +kernel
theorem dX2_edgesApartFrom_0 : decode cX2_edgesApartFrom 0 = .ok (.lconst 0, 1) := by decide +kernel
theorem dX2_edgesApartFrom_1 : decode cX2_edgesApartFrom 1 = .ok (.lstore_n 2, 1) := by decide +kernel
theorem dX2_edgesApartFrom_2 : decode cX2_edgesApartFrom 2 = .ok (.iconst 0, 1) := by decide +kernel
theorem dX2_edgesApartFrom_3 : decode cX2_edgesApartFrom 3 = .ok (.istore 4, 2) := by decide +kernel
theorem dX2_edgesApartFrom_5 : decode cX2_edgesApartFrom 5 = .ok (.iload 4, 2) := by decide +kernel
theorem dX2_edgesApartFrom_7 : decode cX2_edgesApartFrom 7 = .ok (.aload_n 0, 1) := by decide +kernel
theorem dX2_edgesApartFrom_8 : decode cX2_edgesApartFrom 8 = .ok (.getfield 25, 3) := by decide +kernel
theorem dX2_edgesApartFrom_11 : decode cX2_edgesApartFrom 11 = .ok (.if_icmp .ge 38, 3) := by decide +kernel
theorem dX2_edgesApartFrom_14 : decode cX2_edgesApartFrom 14 = .ok (.aload_n 0, 1) := by decide +kernel
theorem dX2_edgesApartFrom_15 : decode cX2_edgesApartFrom 15 = .ok (.getfield 15, 3) := by decide +kernel
theorem dX2_edgesApartFrom_18 : decode cX2_edgesApartFrom 18 = .ok (.iload 4, 2) := by decide +kernel
theorem dX2_edgesApartFrom_20 : decode cX2_edgesApartFrom 20 = .ok (.iaload, 1) := by decide +kernel
theorem dX2_edgesApartFrom_21 : decode cX2_edgesApartFrom 21 = .ok (.iload_n 1, 1) := by decide +kernel
theorem dX2_edgesApartFrom_22 : decode cX2_edgesApartFrom 22 = .ok (.if_icmp .eq 21, 3) := by decide +kernel
theorem dX2_edgesApartFrom_25 : decode cX2_edgesApartFrom 25 = .ok (.aload_n 0, 1) := by decide +kernel
theorem dX2_edgesApartFrom_26 : decode cX2_edgesApartFrom 26 = .ok (.getfield 19, 3) := by decide +kernel
theorem dX2_edgesApartFrom_29 : decode cX2_edgesApartFrom 29 = .ok (.iload 4, 2) := by decide +kernel
theorem dX2_edgesApartFrom_31 : decode cX2_edgesApartFrom 31 = .ok (.iaload, 1) := by decide +kernel
theorem dX2_edgesApartFrom_32 : decode cX2_edgesApartFrom 32 = .ok (.iload_n 1, 1) := by decide +kernel
theorem dX2_edgesApartFrom_33 : decode cX2_edgesApartFrom 33 = .ok (.if_icmp .eq 10, 3) := by decide +kernel
theorem dX2_edgesApartFrom_36 : decode cX2_edgesApartFrom 36 = .ok (.lload_n 2, 1) := by decide +kernel
theorem dX2_edgesApartFrom_37 : decode cX2_edgesApartFrom 37 = .ok (.lconst 1, 1) := by decide +kernel
theorem dX2_edgesApartFrom_38 : decode cX2_edgesApartFrom 38 = .ok (.iload 4, 2) := by decide +kernel
theorem dX2_edgesApartFrom_40 : decode cX2_edgesApartFrom 40 = .ok (.lshl, 1) := by decide +kernel
theorem dX2_edgesApartFrom_41 : decode cX2_edgesApartFrom 41 = .ok (.lor, 1) := by decide +kernel
theorem dX2_edgesApartFrom_42 : decode cX2_edgesApartFrom 42 = .ok (.lstore_n 2, 1) := by decide +kernel
theorem dX2_edgesApartFrom_43 : decode cX2_edgesApartFrom 43 = .ok (.iinc 4 1, 3) := by decide +kernel
theorem dX2_edgesApartFrom_46 : decode cX2_edgesApartFrom 46 = .ok (.goto (-41), 3) := by decide +kernel
theorem dX2_edgesApartFrom_49 : decode cX2_edgesApartFrom 49 = .ok (.lload_n 2, 1) := by decide +kernel
theorem dX2_edgesApartFrom_50 : decode cX2_edgesApartFrom 50 = .ok (.lreturn, 1) := by decide +kernel
theorem dX3_init_0 : decode cX3_init 0 = .ok (.aload_n 0, 1) := by decide +kernel
theorem dX3_init_1 : decode cX3_init 1 = .ok (.invokespecial 3, 3) := by decide +kernel
theorem dX3_init_4 : decode cX3_init 4 = .ok (.aload_n 0, 1) := by decide +kernel
theorem dX3_init_5 : decode cX3_init 5 = .ok (.bipush 16, 2) := by decide +kernel
theorem dX3_init_7 : decode cX3_init 7 = .ok (.newarray .int, 2) := by decide +kernel
theorem dX3_init_9 : decode cX3_init 9 = .ok (.putfield 9, 3) := by decide +kernel
theorem dX3_init_12 : decode cX3_init 12 = .ok (.aload_n 0, 1) := by decide +kernel
theorem dX3_init_13 : decode cX3_init 13 = .ok (.bipush 16, 2) := by decide +kernel
theorem dX3_init_15 : decode cX3_init 15 = .ok (.newarray .long, 2) := by decide +kernel
theorem dX3_init_17 : decode cX3_init 17 = .ok (.putfield 15, 3) := by decide +kernel
theorem dX3_init_20 : decode cX3_init 20 = .ok (.return_, 1) := by decide +kernel
theorem dX3_part_0 : decode cX3_part 0 = .ok (.aload_n 0, 1) := by decide +kernel
theorem dX3_part_1 : decode cX3_part 1 = .ok (.iload_n 1, 1) := by decide +kernel
theorem dX3_part_2 : decode cX3_part 2 = .ok (.putfield 19, 3) := by decide +kernel
theorem dX3_part_5 : decode cX3_part 5 = .ok (.aload_n 0, 1) := by decide +kernel
theorem dX3_part_6 : decode cX3_part 6 = .ok (.iload_n 1, 1) := by decide +kernel
theorem dX3_part_7 : decode cX3_part 7 = .ok (.putfield 23, 3) := by decide +kernel
theorem dX3_part_10 : decode cX3_part 10 = .ok (.iconst 0, 1) := by decide +kernel
theorem dX3_part_11 : decode cX3_part 11 = .ok (.istore_n 2, 1) := by decide +kernel
theorem dX3_part_12 : decode cX3_part 12 = .ok (.iload_n 2, 1) := by decide +kernel
theorem dX3_part_13 : decode cX3_part 13 = .ok (.iload_n 1, 1) := by decide +kernel
theorem dX3_part_14 : decode cX3_part 14 = .ok (.if_icmp .ge 23, 3) := by decide +kernel
theorem dX3_part_17 : decode cX3_part 17 = .ok (.aload_n 0, 1) := by decide +kernel
theorem dX3_part_18 : decode cX3_part 18 = .ok (.getfield 9, 3) := by decide +kernel
theorem dX3_part_21 : decode cX3_part 21 = .ok (.iload_n 2, 1) := by decide +kernel
theorem dX3_part_22 : decode cX3_part 22 = .ok (.iload_n 2, 1) := by decide +kernel
theorem dX3_part_23 : decode cX3_part 23 = .ok (.iastore, 1) := by decide +kernel
theorem dX3_part_24 : decode cX3_part 24 = .ok (.aload_n 0, 1) := by decide +kernel
theorem dX3_part_25 : decode cX3_part 25 = .ok (.getfield 15, 3) := by decide +kernel
theorem dX3_part_28 : decode cX3_part 28 = .ok (.iload_n 2, 1) := by decide +kernel
theorem dX3_part_29 : decode cX3_part 29 = .ok (.lconst 0, 1) := by decide +kernel
theorem dX3_part_30 : decode cX3_part 30 = .ok (.lastore, 1) := by decide +kernel
theorem dX3_part_31 : decode cX3_part 31 = .ok (.iinc 2 1, 3) := by decide +kernel
theorem dX3_part_34 : decode cX3_part 34 = .ok (.goto (-22), 3) := by decide +kernel
theorem dX3_part_37 : decode cX3_part 37 = .ok (.return_, 1) := by decide +kernel
theorem dX3_together_0 : decode cX3_together 0 = .ok (.aload_n 0, 1) := by decide +kernel
theorem dX3_together_1 : decode cX3_together 1 = .ok (.getfield 9, 3) := by decide +kernel
theorem dX3_together_4 : decode cX3_together 4 = .ok (.iload_n 1, 1) := by decide +kernel
theorem dX3_together_5 : decode cX3_together 5 = .ok (.iaload, 1) := by decide +kernel
theorem dX3_together_6 : decode cX3_together 6 = .ok (.aload_n 0, 1) := by decide +kernel
theorem dX3_together_7 : decode cX3_together 7 = .ok (.getfield 9, 3) := by decide +kernel
theorem dX3_together_10 : decode cX3_together 10 = .ok (.iload_n 2, 1) := by decide +kernel
theorem dX3_together_11 : decode cX3_together 11 = .ok (.iaload, 1) := by decide +kernel
theorem dX3_together_12 : decode cX3_together 12 = .ok (.if_icmp .ne 7, 3) := by decide +kernel
theorem dX3_together_15 : decode cX3_together 15 = .ok (.iconst 1, 1) := by decide +kernel
theorem dX3_together_16 : decode cX3_together 16 = .ok (.goto 4, 3) := by decide +kernel
theorem dX3_together_19 : decode cX3_together 19 = .ok (.iconst 0, 1) := by decide +kernel
theorem dX3_together_20 : decode cX3_together 20 = .ok (.ireturn, 1) := by decide +kernel
set_option maxRecDepth 20000 in
theorem ggX3_join_X3_together : GoodIn wsX3_join wsX3_together := goodIn_r _ [7, 2, 19, 20, 21, 22] (by decide +kernel) (by decide +kernel)
set_option maxRecDepth 20000 in
theorem gX3_join_X3_together : GoodIn wsX3_join (wsV RX3 34 RX3 yX3_together wsX3_together) := goodIn_app (goodIn_of _ (by decide +kernel)) ggX3_join_X3_together
set_option maxRecDepth 20000 in
theorem ggX3_join_X3_merge : GoodIn wsX3_join wsX3_merge := goodIn_r _ [11, 12, 2, 1, 13, 19, 20, 21, 22] (by decide +kernel) (by decide +kernel)
set_option maxRecDepth 20000 in
theorem gX3_join_X3_merge : GoodIn wsX3_join (wsV RX3 38 RX3 yX3_merge wsX3_merge) := goodIn_app (goodIn_of _ (by decide +kernel)) ggX3_join_X3_merge
theorem dX3_join_0 : decode cX3_join 0 = .ok (.aload_n 1, 1) := by decide +kernel
theorem dX3_join_1 : decode cX3_join 1 = .ok (.getfield 26, 3) := by decide +kernel
theorem dX3_join_4 : decode cX3_join 4 = .ok (.iload_n 2, 1) := by decide +kernel
theorem dX3_join_5 : decode cX3_join 5 = .ok (.iaload, 1) := by decide +kernel
theorem dX3_join_6 : decode cX3_join 6 = .ok (.istore_n 3, 1) := by decide +kernel
theorem dX3_join_7 : decode cX3_join 7 = .ok (.aload_n 1, 1) := by decide +kernel
theorem dX3_join_8 : decode cX3_join 8 = .ok (.getfield 31, 3) := by decide +kernel
theorem dX3_join_11 : decode cX3_join 11 = .ok (.iload_n 2, 1) := by decide +kernel
theorem dX3_join_12 : decode cX3_join 12 = .ok (.iaload, 1) := by decide +kernel
theorem dX3_join_13 : decode cX3_join 13 = .ok (.istore 4, 2) := by decide +kernel
theorem dX3_join_15 : decode cX3_join 15 = .ok (.aload_n 0, 1) := by decide +kernel
theorem dX3_join_16 : decode cX3_join 16 = .ok (.getfield 15, 3) := by decide +kernel
theorem dX3_join_19 : decode cX3_join 19 = .ok (.iload_n 3, 1) := by decide +kernel
theorem dX3_join_20 : decode cX3_join 20 = .ok (.laload, 1) := by decide +kernel
theorem dX3_join_21 : decode cX3_join 21 = .ok (.aload_n 0, 1) := by decide +kernel
theorem dX3_join_22 : decode cX3_join 22 = .ok (.getfield 15, 3) := by decide +kernel
theorem dX3_join_25 : decode cX3_join 25 = .ok (.iload 4, 2) := by decide +kernel
theorem dX3_join_27 : decode cX3_join 27 = .ok (.laload, 1) := by decide +kernel
theorem dX3_join_28 : decode cX3_join 28 = .ok (.lxor, 1) := by decide +kernel
theorem dX3_join_29 : decode cX3_join 29 = .ok (.lconst 1, 1) := by decide +kernel
theorem dX3_join_30 : decode cX3_join 30 = .ok (.iload_n 2, 1) := by decide +kernel
theorem dX3_join_31 : decode cX3_join 31 = .ok (.lshl, 1) := by decide +kernel
theorem dX3_join_32 : decode cX3_join 32 = .ok (.lxor, 1) := by decide +kernel
theorem dX3_join_33 : decode cX3_join 33 = .ok (.lstore 5, 2) := by decide +kernel
theorem dX3_join_35 : decode cX3_join 35 = .ok (.aload_n 0, 1) := by decide +kernel
theorem dX3_join_36 : decode cX3_join 36 = .ok (.iload_n 3, 1) := by decide +kernel
theorem dX3_join_37 : decode cX3_join 37 = .ok (.iload 4, 2) := by decide +kernel
theorem dX3_join_39 : decode cX3_join 39 = .ok (.invokevirtual 34, 3) := by decide +kernel
theorem dX3_join_42 : decode cX3_join 42 = .ok (.ifCond .eq 6, 3) := by decide +kernel
theorem dX3_join_45 : decode cX3_join 45 = .ok (.lload 5, 2) := by decide +kernel
theorem dX3_join_47 : decode cX3_join 47 = .ok (.lreturn, 1) := by decide +kernel
theorem dX3_join_48 : decode cX3_join 48 = .ok (.aload_n 0, 1) := by decide +kernel
theorem dX3_join_49 : decode cX3_join 49 = .ok (.aload_n 0, 1) := by decide +kernel
theorem dX3_join_50 : decode cX3_join 50 = .ok (.getfield 9, 3) := by decide +kernel
theorem dX3_join_53 : decode cX3_join 53 = .ok (.iload_n 3, 1) := by decide +kernel
theorem dX3_join_54 : decode cX3_join 54 = .ok (.iaload, 1) := by decide +kernel
theorem dX3_join_55 : decode cX3_join 55 = .ok (.aload_n 0, 1) := by decide +kernel
theorem dX3_join_56 : decode cX3_join 56 = .ok (.getfield 9, 3) := by decide +kernel
theorem dX3_join_59 : decode cX3_join 59 = .ok (.iload 4, 2) := by decide +kernel
theorem dX3_join_61 : decode cX3_join 61 = .ok (.iaload, 1) := by decide +kernel
theorem dX3_join_62 : decode cX3_join 62 = .ok (.lload 5, 2) := by decide +kernel
theorem dX3_join_64 : decode cX3_join 64 = .ok (.invokevirtual 38, 3) := by decide +kernel
theorem dX3_join_67 : decode cX3_join 67 = .ok (.lconst 0, 1) := by decide +kernel
theorem dX3_join_68 : decode cX3_join 68 = .ok (.lreturn, 1) := by decide +kernel
theorem dX3_merge_0 : decode cX3_merge 0 = .ok (.iconst 0, 1) := by decide +kernel
theorem dX3_merge_1 : decode cX3_merge 1 = .ok (.istore 5, 2) := by decide +kernel
theorem dX3_merge_3 : decode cX3_merge 3 = .ok (.iload 5, 2) := by decide +kernel
theorem dX3_merge_5 : decode cX3_merge 5 = .ok (.aload_n 0, 1) := by decide +kernel
theorem dX3_merge_6 : decode cX3_merge 6 = .ok (.getfield 19, 3) := by decide +kernel
theorem dX3_merge_9 : decode cX3_merge 9 = .ok (.if_icmp .ge 39, 3) := by decide +kernel
theorem dX3_merge_12 : decode cX3_merge 12 = .ok (.aload_n 0, 1) := by decide +kernel
theorem dX3_merge_13 : decode cX3_merge 13 = .ok (.getfield 9, 3) := by decide +kernel
theorem dX3_merge_16 : decode cX3_merge 16 = .ok (.iload 5, 2) := by decide +kernel
theorem dX3_merge_18 : decode cX3_merge 18 = .ok (.iaload, 1) := by decide +kernel
theorem dX3_merge_19 : decode cX3_merge 19 = .ok (.iload_n 2, 1) := by decide +kernel
theorem dX3_merge_20 : decode cX3_merge 20 = .ok (.if_icmp .ne 22, 3) := by decide +kernel
theorem dX3_merge_23 : decode cX3_merge 23 = .ok (.aload_n 0, 1) := by decide +kernel
theorem dX3_merge_24 : decode cX3_merge 24 = .ok (.getfield 9, 3) := by decide +kernel
theorem dX3_merge_27 : decode cX3_merge 27 = .ok (.iload 5, 2) := by decide +kernel
theorem dX3_merge_29 : decode cX3_merge 29 = .ok (.iload_n 1, 1) := by decide +kernel
theorem dX3_merge_30 : decode cX3_merge 30 = .ok (.iastore, 1) := by decide +kernel
theorem dX3_merge_31 : decode cX3_merge 31 = .ok (.aload_n 0, 1) := by decide +kernel
theorem dX3_merge_32 : decode cX3_merge 32 = .ok (.getfield 15, 3) := by decide +kernel
theorem dX3_merge_35 : decode cX3_merge 35 = .ok (.iload 5, 2) := by decide +kernel
theorem dX3_merge_37 : decode cX3_merge 37 = .ok (.dup2, 1) := by decide +kernel
theorem dX3_merge_38 : decode cX3_merge 38 = .ok (.laload, 1) := by decide +kernel
theorem dX3_merge_39 : decode cX3_merge 39 = .ok (.lload_n 3, 1) := by decide +kernel
theorem dX3_merge_40 : decode cX3_merge 40 = .ok (.lxor, 1) := by decide +kernel
theorem dX3_merge_41 : decode cX3_merge 41 = .ok (.lastore, 1) := by decide +kernel
theorem dX3_merge_42 : decode cX3_merge 42 = .ok (.iinc 5 1, 3) := by decide +kernel
theorem dX3_merge_45 : decode cX3_merge 45 = .ok (.goto (-42), 3) := by decide +kernel
theorem dX3_merge_48 : decode cX3_merge 48 = .ok (.aload_n 0, 1) := by decide +kernel
theorem dX3_merge_49 : decode cX3_merge 49 = .ok (.dup, 1) := by decide +kernel
theorem dX3_merge_50 : decode cX3_merge 50 = .ok (.getfield 23, 3) := by decide +kernel
theorem dX3_merge_53 : decode cX3_merge 53 = .ok (.iconst 1, 1) := by decide +kernel
theorem dX3_merge_54 : decode cX3_merge 54 = .ok (.isub, 1) := by decide +kernel
theorem dX3_merge_55 : decode cX3_merge 55 = .ok (.putfield 23, 3) := by decide +kernel
theorem dX3_merge_58 : decode cX3_merge 58 = .ok (.return_, 1) := by decide +kernel
theorem dX4_init_0 : decode cX4_init 0 = .ok (.aload_n 0, 1) := by decide +kernel
theorem dX4_init_1 : decode cX4_init 1 = .ok (.invokespecial 3, 3) := by decide +kernel
theorem dX4_init_4 : decode cX4_init 4 = .ok (.aload_n 0, 1) := by decide +kernel
theorem dX4_init_5 : decode cX4_init 5 = .ok (.bipush 14, 2) := by decide +kernel
theorem dX4_init_7 : decode cX4_init 7 = .ok (.newarray .long, 2) := by decide +kernel
theorem dX4_init_9 : decode cX4_init 9 = .ok (.putfield 9, 3) := by decide +kernel
theorem dX4_init_12 : decode cX4_init 12 = .ok (.aload_n 0, 1) := by decide +kernel
theorem dX4_init_13 : decode cX4_init 13 = .ok (.bipush 14, 2) := by decide +kernel
theorem dX4_init_15 : decode cX4_init 15 = .ok (.newarray .long, 2) := by decide +kernel
theorem dX4_init_17 : decode cX4_init 17 = .ok (.putfield 15, 3) := by decide +kernel
theorem dX4_init_20 : decode cX4_init 20 = .ok (.aload_n 0, 1) := by decide +kernel
theorem dX4_init_21 : decode cX4_init 21 = .ok (.sipush 640, 3) := by decide +kernel
theorem dX4_init_24 : decode cX4_init 24 = .ok (.newarray .long, 2) := by decide +kernel
theorem dX4_init_26 : decode cX4_init 26 = .ok (.putfield 18, 3) := by decide +kernel
theorem dX4_init_29 : decode cX4_init 29 = .ok (.aload_n 0, 1) := by decide +kernel
theorem dX4_init_30 : decode cX4_init 30 = .ok (.sipush 640, 3) := by decide +kernel
theorem dX4_init_33 : decode cX4_init 33 = .ok (.newarray .long, 2) := by decide +kernel
theorem dX4_init_35 : decode cX4_init 35 = .ok (.putfield 21, 3) := by decide +kernel
theorem dX4_init_38 : decode cX4_init 38 = .ok (.return_, 1) := by decide +kernel
set_option maxRecDepth 20000 in
theorem ggX4_find_X4_gatherAll : GoodIn wsX4_find wsX4_gatherAll := goodIn_r _ [10, 11, 12, 13, 14, 15, 16, 17, 18, 19, 20, 21, 22, 23, 24, 25, 26, 27, 28, 29, 30, 9, 31, 3, 5, 32, 33, 34, 35, 47, 48, 49, 50, 51, 52, 53, 54, 55, 56, 57, 58, 59] (by decide +kernel) (by decide +kernel)
set_option maxRecDepth 20000 in
theorem gX4_find_X4_gatherAll : GoodIn wsX4_find (wsV RX4 24 RX4 yX4_gatherAll wsX4_gatherAll) := goodIn_app (goodIn_of _ (by decide +kernel)) ggX4_find_X4_gatherAll
set_option maxRecDepth 20000 in
theorem ggX4_find_X4_lightestLeft : GoodIn wsX4_find wsX4_lightestLeft := goodIn_r _ [39, 11, 3, 5, 47, 48, 49, 50, 51, 52] (by decide +kernel) (by decide +kernel)
set_option maxRecDepth 20000 in
theorem gX4_find_X4_lightestLeft : GoodIn wsX4_find (wsV RX4 32 RX4 yX4_lightestLeft wsX4_lightestLeft) := goodIn_app (goodIn_of _ (by decide +kernel)) ggX4_find_X4_lightestLeft
set_option maxRecDepth 20000 in
theorem ggX4_find_X4_strike : GoodIn wsX4_find wsX4_strike := goodIn_r _ [43, 11, 3, 44, 45, 9, 46, 47, 48, 49, 50, 51, 52] (by decide +kernel) (by decide +kernel)
set_option maxRecDepth 20000 in
theorem gX4_find_X4_strike : GoodIn wsX4_find (wsV RX4 36 RX4 yX4_strike wsX4_strike) := goodIn_app (goodIn_of _ (by decide +kernel)) ggX4_find_X4_strike
theorem dX4_find_0 : decode cX4_find 0 = .ok (.aload_n 0, 1) := by decide +kernel
theorem dX4_find_1 : decode cX4_find 1 = .ok (.aload_n 1, 1) := by decide +kernel
theorem dX4_find_2 : decode cX4_find 2 = .ok (.aload_n 2, 1) := by decide +kernel
theorem dX4_find_3 : decode cX4_find 3 = .ok (.invokevirtual 24, 3) := by decide +kernel
theorem dX4_find_6 : decode cX4_find 6 = .ok (.aload_n 0, 1) := by decide +kernel
theorem dX4_find_7 : decode cX4_find 7 = .ok (.iconst 0, 1) := by decide +kernel
theorem dX4_find_8 : decode cX4_find 8 = .ok (.putfield 28, 3) := by decide +kernel
theorem dX4_find_11 : decode cX4_find 11 = .ok (.aload_n 0, 1) := by decide +kernel
theorem dX4_find_12 : decode cX4_find 12 = .ok (.getfield 28, 3) := by decide +kernel
theorem dX4_find_15 : decode cX4_find 15 = .ok (.bipush 14, 2) := by decide +kernel
theorem dX4_find_17 : decode cX4_find 17 = .ok (.if_icmp .ge 67, 3) := by decide +kernel
theorem dX4_find_20 : decode cX4_find 20 = .ok (.aload_n 0, 1) := by decide +kernel
theorem dX4_find_21 : decode cX4_find 21 = .ok (.invokevirtual 32, 3) := by decide +kernel
theorem dX4_find_24 : decode cX4_find 24 = .ok (.istore_n 3, 1) := by decide +kernel
theorem dX4_find_25 : decode cX4_find 25 = .ok (.iload_n 3, 1) := by decide +kernel
theorem dX4_find_26 : decode cX4_find 26 = .ok (.iconst (-1), 1) := by decide +kernel
theorem dX4_find_27 : decode cX4_find 27 = .ok (.if_icmp .ne 4, 3) := by decide +kernel
theorem dX4_find_30 : decode cX4_find 30 = .ok (.return_, 1) := by decide +kernel
theorem dX4_find_31 : decode cX4_find 31 = .ok (.aload_n 0, 1) := by decide +kernel
theorem dX4_find_32 : decode cX4_find 32 = .ok (.getfield 9, 3) := by decide +kernel
theorem dX4_find_35 : decode cX4_find 35 = .ok (.aload_n 0, 1) := by decide +kernel
theorem dX4_find_36 : decode cX4_find 36 = .ok (.getfield 28, 3) := by decide +kernel
theorem dX4_find_39 : decode cX4_find 39 = .ok (.aload_n 0, 1) := by decide +kernel
theorem dX4_find_40 : decode cX4_find 40 = .ok (.getfield 18, 3) := by decide +kernel
theorem dX4_find_43 : decode cX4_find 43 = .ok (.iload_n 3, 1) := by decide +kernel
theorem dX4_find_44 : decode cX4_find 44 = .ok (.laload, 1) := by decide +kernel
theorem dX4_find_45 : decode cX4_find 45 = .ok (.lastore, 1) := by decide +kernel
theorem dX4_find_46 : decode cX4_find 46 = .ok (.aload_n 0, 1) := by decide +kernel
theorem dX4_find_47 : decode cX4_find 47 = .ok (.getfield 15, 3) := by decide +kernel
theorem dX4_find_50 : decode cX4_find 50 = .ok (.aload_n 0, 1) := by decide +kernel
theorem dX4_find_51 : decode cX4_find 51 = .ok (.getfield 28, 3) := by decide +kernel
theorem dX4_find_54 : decode cX4_find 54 = .ok (.aload_n 0, 1) := by decide +kernel
theorem dX4_find_55 : decode cX4_find 55 = .ok (.getfield 21, 3) := by decide +kernel
theorem dX4_find_58 : decode cX4_find 58 = .ok (.iload_n 3, 1) := by decide +kernel
theorem dX4_find_59 : decode cX4_find 59 = .ok (.laload, 1) := by decide +kernel
theorem dX4_find_60 : decode cX4_find 60 = .ok (.lastore, 1) := by decide +kernel
theorem dX4_find_61 : decode cX4_find 61 = .ok (.aload_n 0, 1) := by decide +kernel
theorem dX4_find_62 : decode cX4_find 62 = .ok (.aload_n 0, 1) := by decide +kernel
theorem dX4_find_63 : decode cX4_find 63 = .ok (.getfield 18, 3) := by decide +kernel
theorem dX4_find_66 : decode cX4_find 66 = .ok (.iload_n 3, 1) := by decide +kernel
theorem dX4_find_67 : decode cX4_find 67 = .ok (.laload, 1) := by decide +kernel
theorem dX4_find_68 : decode cX4_find 68 = .ok (.invokevirtual 36, 3) := by decide +kernel
theorem dX4_find_71 : decode cX4_find 71 = .ok (.aload_n 0, 1) := by decide +kernel
theorem dX4_find_72 : decode cX4_find 72 = .ok (.dup, 1) := by decide +kernel
theorem dX4_find_73 : decode cX4_find 73 = .ok (.getfield 28, 3) := by decide +kernel
theorem dX4_find_76 : decode cX4_find 76 = .ok (.iconst 1, 1) := by decide +kernel
theorem dX4_find_77 : decode cX4_find 77 = .ok (.iadd, 1) := by decide +kernel
theorem dX4_find_78 : decode cX4_find 78 = .ok (.putfield 28, 3) := by decide +kernel
theorem dX4_find_81 : decode cX4_find 81 = .ok (.goto (-70), 3) := by decide +kernel
theorem dX4_find_84 : decode cX4_find 84 = .ok (.return_, 1) := by decide +kernel
set_option maxRecDepth 20000 in
theorem ggX4_isSumOfLighter_X4_mark : GoodIn wsX4_isSumOfLighter wsX4_mark := goodIn_r _ [7] (by decide +kernel) (by decide +kernel)
set_option maxRecDepth 20000 in
theorem gX4_isSumOfLighter_X4_mark : GoodIn wsX4_isSumOfLighter (va_wsS RX4 40 yX4_mark wsX4_mark) := goodIn_app (goodIn_of _ (by decide +kernel)) ggX4_isSumOfLighter_X4_mark
theorem dX4_isSumOfLighter_0 : decode cX4_isSumOfLighter 0 = .ok (.lload_n 1, 1) := by decide +kernel
theorem dX4_isSumOfLighter_1 : decode cX4_isSumOfLighter 1 = .ok (.lstore 5, 2) := by decide +kernel
theorem dX4_isSumOfLighter_3 : decode cX4_isSumOfLighter 3 = .ok (.iconst 0, 1) := by decide +kernel
theorem dX4_isSumOfLighter_4 : decode cX4_isSumOfLighter 4 = .ok (.istore 7, 2) := by decide +kernel
theorem dX4_isSumOfLighter_6 : decode cX4_isSumOfLighter 6 = .ok (.iload 7, 2) := by decide +kernel
theorem dX4_isSumOfLighter_8 : decode cX4_isSumOfLighter 8 = .ok (.aload_n 0, 1) := by decide +kernel
theorem dX4_isSumOfLighter_9 : decode cX4_isSumOfLighter 9 = .ok (.getfield 28, 3) := by decide +kernel
theorem dX4_isSumOfLighter_12 : decode cX4_isSumOfLighter 12 = .ok (.if_icmp .ge 51, 3) := by decide +kernel
theorem dX4_isSumOfLighter_15 : decode cX4_isSumOfLighter 15 = .ok (.aload_n 0, 1) := by decide +kernel
theorem dX4_isSumOfLighter_16 : decode cX4_isSumOfLighter 16 = .ok (.getfield 15, 3) := by decide +kernel
theorem dX4_isSumOfLighter_19 : decode cX4_isSumOfLighter 19 = .ok (.iload 7, 2) := by decide +kernel
theorem dX4_isSumOfLighter_21 : decode cX4_isSumOfLighter 21 = .ok (.laload, 1) := by decide +kernel
theorem dX4_isSumOfLighter_22 : decode cX4_isSumOfLighter 22 = .ok (.lload_n 3, 1) := by decide +kernel
theorem dX4_isSumOfLighter_23 : decode cX4_isSumOfLighter 23 = .ok (.lcmp, 1) := by decide +kernel
theorem dX4_isSumOfLighter_24 : decode cX4_isSumOfLighter 24 = .ok (.ifCond .ge 33, 3) := by decide +kernel
theorem dX4_isSumOfLighter_27 : decode cX4_isSumOfLighter 27 = .ok (.lload 5, 2) := by decide +kernel
theorem dX4_isSumOfLighter_29 : decode cX4_isSumOfLighter 29 = .ok (.aload_n 0, 1) := by decide +kernel
theorem dX4_isSumOfLighter_30 : decode cX4_isSumOfLighter 30 = .ok (.getfield 9, 3) := by decide +kernel
theorem dX4_isSumOfLighter_33 : decode cX4_isSumOfLighter 33 = .ok (.iload 7, 2) := by decide +kernel
theorem dX4_isSumOfLighter_35 : decode cX4_isSumOfLighter 35 = .ok (.laload, 1) := by decide +kernel
theorem dX4_isSumOfLighter_36 : decode cX4_isSumOfLighter 36 = .ok (.invokestatic 40, 3) := by decide +kernel
theorem dX4_isSumOfLighter_39 : decode cX4_isSumOfLighter 39 = .ok (.land, 1) := by decide +kernel
theorem dX4_isSumOfLighter_40 : decode cX4_isSumOfLighter 40 = .ok (.lconst 0, 1) := by decide +kernel
theorem dX4_isSumOfLighter_41 : decode cX4_isSumOfLighter 41 = .ok (.lcmp, 1) := by decide +kernel
theorem dX4_isSumOfLighter_42 : decode cX4_isSumOfLighter 42 = .ok (.ifCond .eq 15, 3) := by decide +kernel
theorem dX4_isSumOfLighter_45 : decode cX4_isSumOfLighter 45 = .ok (.lload 5, 2) := by decide +kernel
theorem dX4_isSumOfLighter_47 : decode cX4_isSumOfLighter 47 = .ok (.aload_n 0, 1) := by decide +kernel
theorem dX4_isSumOfLighter_48 : decode cX4_isSumOfLighter 48 = .ok (.getfield 9, 3) := by decide +kernel
theorem dX4_isSumOfLighter_51 : decode cX4_isSumOfLighter 51 = .ok (.iload 7, 2) := by decide +kernel
theorem dX4_isSumOfLighter_53 : decode cX4_isSumOfLighter 53 = .ok (.laload, 1) := by decide +kernel
theorem dX4_isSumOfLighter_54 : decode cX4_isSumOfLighter 54 = .ok (.lxor, 1) := by decide +kernel
theorem dX4_isSumOfLighter_55 : decode cX4_isSumOfLighter 55 = .ok (.lstore 5, 2) := by decide +kernel
theorem dX4_isSumOfLighter_57 : decode cX4_isSumOfLighter 57 = .ok (.iinc 7 1, 3) := by decide +kernel
theorem dX4_isSumOfLighter_60 : decode cX4_isSumOfLighter 60 = .ok (.goto (-54), 3) := by decide +kernel
theorem dX4_isSumOfLighter_63 : decode cX4_isSumOfLighter 63 = .ok (.lload 5, 2) := by decide +kernel
theorem dX4_isSumOfLighter_65 : decode cX4_isSumOfLighter 65 = .ok (.lconst 0, 1) := by decide +kernel
theorem dX4_isSumOfLighter_66 : decode cX4_isSumOfLighter 66 = .ok (.lcmp, 1) := by decide +kernel
theorem dX4_isSumOfLighter_67 : decode cX4_isSumOfLighter 67 = .ok (.ifCond .ne 7, 3) := by decide +kernel
theorem dX4_isSumOfLighter_70 : decode cX4_isSumOfLighter 70 = .ok (.iconst 1, 1) := by decide +kernel
theorem dX4_isSumOfLighter_71 : decode cX4_isSumOfLighter 71 = .ok (.goto 4, 3) := by decide +kernel
theorem dX4_isSumOfLighter_74 : decode cX4_isSumOfLighter 74 = .ok (.iconst 0, 1) := by decide +kernel
theorem dX4_isSumOfLighter_75 : decode cX4_isSumOfLighter 75 = .ok (.ireturn, 1) := by decide +kernel
set_option maxRecDepth 20000 in
theorem ggX4_gatherAll_X6_seek : GoodIn wsX4_gatherAll wsX6_seek := goodIn_r _ [6, 7, 8, 9, 10, 11, 12, 5, 13, 14, 15, 16, 17, 35, 36, 37, 38, 39, 40, 41] (by decide +kernel) (by decide +kernel)
set_option maxRecDepth 20000 in
theorem gX4_gatherAll_X6_seek : GoodIn wsX4_gatherAll (wsV RX4 52 RX6 yX6_seek wsX6_seek) := goodIn_app (goodIn_of _ (by decide +kernel)) ggX4_gatherAll_X6_seek
set_option maxRecDepth 20000 in
theorem ggX4_gatherAll_X4_gather : GoodIn wsX4_gatherAll wsX4_gather := goodIn_r _ [22, 23, 1, 24, 25, 26, 27, 5, 28, 7, 8, 35, 36, 37, 38, 39, 40, 41, 29, 30, 31, 32, 33, 34] (by decide +kernel) (by decide +kernel)
set_option maxRecDepth 20000 in
theorem gX4_gatherAll_X4_gather : GoodIn wsX4_gatherAll (wsV RX4 61 RX4 yX4_gather wsX4_gather) := goodIn_app (goodIn_of _ (by decide +kernel)) ggX4_gatherAll_X4_gather
theorem dX4_gatherAll_0 : decode cX4_gatherAll 0 = .ok (.aload_n 0, 1) := by decide +kernel
theorem dX4_gatherAll_1 : decode cX4_gatherAll 1 = .ok (.iconst 0, 1) := by decide +kernel
theorem dX4_gatherAll_2 : decode cX4_gatherAll 2 = .ok (.putfield 44, 3) := by decide +kernel
theorem dX4_gatherAll_5 : decode cX4_gatherAll 5 = .ok (.iconst 0, 1) := by decide +kernel
theorem dX4_gatherAll_6 : decode cX4_gatherAll 6 = .ok (.istore_n 3, 1) := by decide +kernel
theorem dX4_gatherAll_7 : decode cX4_gatherAll 7 = .ok (.iload_n 3, 1) := by decide +kernel
theorem dX4_gatherAll_8 : decode cX4_gatherAll 8 = .ok (.aload_n 1, 1) := by decide +kernel
theorem dX4_gatherAll_9 : decode cX4_gatherAll 9 = .ok (.getfield 47, 3) := by decide +kernel
theorem dX4_gatherAll_12 : decode cX4_gatherAll 12 = .ok (.if_icmp .ge 42, 3) := by decide +kernel
theorem dX4_gatherAll_15 : decode cX4_gatherAll 15 = .ok (.aload_n 2, 1) := by decide +kernel
theorem dX4_gatherAll_16 : decode cX4_gatherAll 16 = .ok (.aload_n 1, 1) := by decide +kernel
theorem dX4_gatherAll_17 : decode cX4_gatherAll 17 = .ok (.iload_n 3, 1) := by decide +kernel
theorem dX4_gatherAll_18 : decode cX4_gatherAll 18 = .ok (.iconst (-1), 1) := by decide +kernel
theorem dX4_gatherAll_19 : decode cX4_gatherAll 19 = .ok (.invokevirtual 52, 3) := by decide +kernel
theorem dX4_gatherAll_22 : decode cX4_gatherAll 22 = .ok (.iconst 0, 1) := by decide +kernel
theorem dX4_gatherAll_23 : decode cX4_gatherAll 23 = .ok (.istore 4, 2) := by decide +kernel
theorem dX4_gatherAll_25 : decode cX4_gatherAll 25 = .ok (.iload 4, 2) := by decide +kernel
theorem dX4_gatherAll_27 : decode cX4_gatherAll 27 = .ok (.aload_n 1, 1) := by decide +kernel
theorem dX4_gatherAll_28 : decode cX4_gatherAll 28 = .ok (.getfield 58, 3) := by decide +kernel
theorem dX4_gatherAll_31 : decode cX4_gatherAll 31 = .ok (.if_icmp .ge 17, 3) := by decide +kernel
theorem dX4_gatherAll_34 : decode cX4_gatherAll 34 = .ok (.aload_n 0, 1) := by decide +kernel
theorem dX4_gatherAll_35 : decode cX4_gatherAll 35 = .ok (.aload_n 1, 1) := by decide +kernel
theorem dX4_gatherAll_36 : decode cX4_gatherAll 36 = .ok (.aload_n 2, 1) := by decide +kernel
theorem dX4_gatherAll_37 : decode cX4_gatherAll 37 = .ok (.iload 4, 2) := by decide +kernel
theorem dX4_gatherAll_39 : decode cX4_gatherAll 39 = .ok (.invokevirtual 61, 3) := by decide +kernel
theorem dX4_gatherAll_42 : decode cX4_gatherAll 42 = .ok (.iinc 4 1, 3) := by decide +kernel
theorem dX4_gatherAll_45 : decode cX4_gatherAll 45 = .ok (.goto (-20), 3) := by decide +kernel
theorem dX4_gatherAll_48 : decode cX4_gatherAll 48 = .ok (.iinc 3 1, 3) := by decide +kernel
theorem dX4_gatherAll_51 : decode cX4_gatherAll 51 = .ok (.goto (-44), 3) := by decide +kernel
theorem dX4_gatherAll_54 : decode cX4_gatherAll 54 = .ok (.return_, 1) := by decide +kernel
set_option maxRecDepth 20000 in
theorem ggX4_gather_X6_reaches : GoodIn wsX4_gather wsX6_reaches := goodIn_r _ [8, 9, 10, 16, 17] (by decide +kernel) (by decide +kernel)
set_option maxRecDepth 20000 in
theorem gX4_gather_X6_reaches : GoodIn wsX4_gather (wsV RX4 75 RX6 yX6_reaches wsX6_reaches) := goodIn_app (goodIn_of _ (by decide +kernel)) ggX4_gather_X6_reaches
theorem dX4_gather_0 : decode cX4_gather 0 = .ok (.aload_n 1, 1) := by decide +kernel
theorem dX4_gather_1 : decode cX4_gather 1 = .ok (.getfield 65, 3) := by decide +kernel
theorem dX4_gather_4 : decode cX4_gather 4 = .ok (.iload_n 3, 1) := by decide +kernel
theorem dX4_gather_5 : decode cX4_gather 5 = .ok (.iaload, 1) := by decide +kernel
theorem dX4_gather_6 : decode cX4_gather 6 = .ok (.istore 4, 2) := by decide +kernel
theorem dX4_gather_8 : decode cX4_gather 8 = .ok (.aload_n 1, 1) := by decide +kernel
theorem dX4_gather_9 : decode cX4_gather 9 = .ok (.getfield 69, 3) := by decide +kernel
theorem dX4_gather_12 : decode cX4_gather 12 = .ok (.iload_n 3, 1) := by decide +kernel
theorem dX4_gather_13 : decode cX4_gather 13 = .ok (.iaload, 1) := by decide +kernel
theorem dX4_gather_14 : decode cX4_gather 14 = .ok (.istore 5, 2) := by decide +kernel
theorem dX4_gather_16 : decode cX4_gather 16 = .ok (.aload_n 2, 1) := by decide +kernel
theorem dX4_gather_17 : decode cX4_gather 17 = .ok (.getfield 72, 3) := by decide +kernel
theorem dX4_gather_20 : decode cX4_gather 20 = .ok (.iload 4, 2) := by decide +kernel
theorem dX4_gather_22 : decode cX4_gather 22 = .ok (.laload, 1) := by decide +kernel
theorem dX4_gather_23 : decode cX4_gather 23 = .ok (.aload_n 2, 1) := by decide +kernel
theorem dX4_gather_24 : decode cX4_gather 24 = .ok (.getfield 72, 3) := by decide +kernel
theorem dX4_gather_27 : decode cX4_gather 27 = .ok (.iload 5, 2) := by decide +kernel
theorem dX4_gather_29 : decode cX4_gather 29 = .ok (.laload, 1) := by decide +kernel
theorem dX4_gather_30 : decode cX4_gather 30 = .ok (.lxor, 1) := by decide +kernel
theorem dX4_gather_31 : decode cX4_gather 31 = .ok (.lconst 1, 1) := by decide +kernel
theorem dX4_gather_32 : decode cX4_gather 32 = .ok (.iload_n 3, 1) := by decide +kernel
theorem dX4_gather_33 : decode cX4_gather 33 = .ok (.lshl, 1) := by decide +kernel
theorem dX4_gather_34 : decode cX4_gather 34 = .ok (.lxor, 1) := by decide +kernel
theorem dX4_gather_35 : decode cX4_gather 35 = .ok (.lstore 6, 2) := by decide +kernel
theorem dX4_gather_37 : decode cX4_gather 37 = .ok (.aload_n 2, 1) := by decide +kernel
theorem dX4_gather_38 : decode cX4_gather 38 = .ok (.iload 4, 2) := by decide +kernel
theorem dX4_gather_40 : decode cX4_gather 40 = .ok (.invokevirtual 75, 3) := by decide +kernel
theorem dX4_gather_43 : decode cX4_gather 43 = .ok (.ifCond .eq 63, 3) := by decide +kernel
theorem dX4_gather_46 : decode cX4_gather 46 = .ok (.lload 6, 2) := by decide +kernel
theorem dX4_gather_48 : decode cX4_gather 48 = .ok (.lconst 0, 1) := by decide +kernel
theorem dX4_gather_49 : decode cX4_gather 49 = .ok (.lcmp, 1) := by decide +kernel
theorem dX4_gather_50 : decode cX4_gather 50 = .ok (.ifCond .eq 56, 3) := by decide +kernel
theorem dX4_gather_53 : decode cX4_gather 53 = .ok (.aload_n 0, 1) := by decide +kernel
theorem dX4_gather_54 : decode cX4_gather 54 = .ok (.getfield 18, 3) := by decide +kernel
theorem dX4_gather_57 : decode cX4_gather 57 = .ok (.aload_n 0, 1) := by decide +kernel
theorem dX4_gather_58 : decode cX4_gather 58 = .ok (.getfield 44, 3) := by decide +kernel
theorem dX4_gather_61 : decode cX4_gather 61 = .ok (.lload 6, 2) := by decide +kernel
theorem dX4_gather_63 : decode cX4_gather 63 = .ok (.lastore, 1) := by decide +kernel
theorem dX4_gather_64 : decode cX4_gather 64 = .ok (.aload_n 0, 1) := by decide +kernel
theorem dX4_gather_65 : decode cX4_gather 65 = .ok (.getfield 21, 3) := by decide +kernel
theorem dX4_gather_68 : decode cX4_gather 68 = .ok (.aload_n 0, 1) := by decide +kernel
theorem dX4_gather_69 : decode cX4_gather 69 = .ok (.getfield 44, 3) := by decide +kernel
theorem dX4_gather_72 : decode cX4_gather 72 = .ok (.aload_n 2, 1) := by decide +kernel
theorem dX4_gather_73 : decode cX4_gather 73 = .ok (.getfield 79, 3) := by decide +kernel
theorem dX4_gather_76 : decode cX4_gather 76 = .ok (.iload 4, 2) := by decide +kernel
theorem dX4_gather_78 : decode cX4_gather 78 = .ok (.laload, 1) := by decide +kernel
theorem dX4_gather_79 : decode cX4_gather 79 = .ok (.aload_n 2, 1) := by decide +kernel
theorem dX4_gather_80 : decode cX4_gather 80 = .ok (.getfield 79, 3) := by decide +kernel
theorem dX4_gather_83 : decode cX4_gather 83 = .ok (.iload 5, 2) := by decide +kernel
theorem dX4_gather_85 : decode cX4_gather 85 = .ok (.laload, 1) := by decide +kernel
theorem dX4_gather_86 : decode cX4_gather 86 = .ok (.ladd, 1) := by decide +kernel
theorem dX4_gather_87 : decode cX4_gather 87 = .ok (.aload_n 1, 1) := by decide +kernel
theorem dX4_gather_88 : decode cX4_gather 88 = .ok (.getfield 82, 3) := by decide +kernel
theorem dX4_gather_91 : decode cX4_gather 91 = .ok (.iload_n 3, 1) := by decide +kernel
theorem dX4_gather_92 : decode cX4_gather 92 = .ok (.iaload, 1) := by decide +kernel
theorem dX4_gather_93 : decode cX4_gather 93 = .ok (.i2l, 1) := by decide +kernel
theorem dX4_gather_94 : decode cX4_gather 94 = .ok (.ladd, 1) := by decide +kernel
theorem dX4_gather_95 : decode cX4_gather 95 = .ok (.lastore, 1) := by decide +kernel
theorem dX4_gather_96 : decode cX4_gather 96 = .ok (.aload_n 0, 1) := by decide +kernel
theorem dX4_gather_97 : decode cX4_gather 97 = .ok (.dup, 1) := by decide +kernel
theorem dX4_gather_98 : decode cX4_gather 98 = .ok (.getfield 44, 3) := by decide +kernel
theorem dX4_gather_101 : decode cX4_gather 101 = .ok (.iconst 1, 1) := by decide +kernel
theorem dX4_gather_102 : decode cX4_gather 102 = .ok (.iadd, 1) := by decide +kernel
theorem dX4_gather_103 : decode cX4_gather 103 = .ok (.putfield 44, 3) := by decide +kernel
theorem dX4_gather_106 : decode cX4_gather 106 = .ok (.return_, 1) := by decide +kernel
theorem dX4_lightestLeft_0 : decode cX4_lightestLeft 0 = .ok (.iconst (-1), 1) := by decide +kernel
theorem dX4_lightestLeft_1 : decode cX4_lightestLeft 1 = .ok (.istore_n 1, 1) := by decide +kernel
theorem dX4_lightestLeft_2 : decode cX4_lightestLeft 2 = .ok (.iconst 0, 1) := by decide +kernel
theorem dX4_lightestLeft_3 : decode cX4_lightestLeft 3 = .ok (.istore_n 2, 1) := by decide +kernel
theorem dX4_lightestLeft_4 : decode cX4_lightestLeft 4 = .ok (.iload_n 2, 1) := by decide +kernel
theorem dX4_lightestLeft_5 : decode cX4_lightestLeft 5 = .ok (.aload_n 0, 1) := by decide +kernel
theorem dX4_lightestLeft_6 : decode cX4_lightestLeft 6 = .ok (.getfield 44, 3) := by decide +kernel
theorem dX4_lightestLeft_9 : decode cX4_lightestLeft 9 = .ok (.if_icmp .ge 43, 3) := by decide +kernel
theorem dX4_lightestLeft_12 : decode cX4_lightestLeft 12 = .ok (.aload_n 0, 1) := by decide +kernel
theorem dX4_lightestLeft_13 : decode cX4_lightestLeft 13 = .ok (.getfield 18, 3) := by decide +kernel
theorem dX4_lightestLeft_16 : decode cX4_lightestLeft 16 = .ok (.iload_n 2, 1) := by decide +kernel
theorem dX4_lightestLeft_17 : decode cX4_lightestLeft 17 = .ok (.laload, 1) := by decide +kernel
theorem dX4_lightestLeft_18 : decode cX4_lightestLeft 18 = .ok (.lconst 0, 1) := by decide +kernel
theorem dX4_lightestLeft_19 : decode cX4_lightestLeft 19 = .ok (.lcmp, 1) := by decide +kernel
theorem dX4_lightestLeft_20 : decode cX4_lightestLeft 20 = .ok (.ifCond .eq 26, 3) := by decide +kernel
theorem dX4_lightestLeft_23 : decode cX4_lightestLeft 23 = .ok (.iload_n 1, 1) := by decide +kernel
theorem dX4_lightestLeft_24 : decode cX4_lightestLeft 24 = .ok (.iconst (-1), 1) := by decide +kernel
theorem dX4_lightestLeft_25 : decode cX4_lightestLeft 25 = .ok (.if_icmp .eq 19, 3) := by decide +kernel
theorem dX4_lightestLeft_28 : decode cX4_lightestLeft 28 = .ok (.aload_n 0, 1) := by decide +kernel
theorem dX4_lightestLeft_29 : decode cX4_lightestLeft 29 = .ok (.getfield 21, 3) := by decide +kernel
theorem dX4_lightestLeft_32 : decode cX4_lightestLeft 32 = .ok (.iload_n 2, 1) := by decide +kernel
theorem dX4_lightestLeft_33 : decode cX4_lightestLeft 33 = .ok (.laload, 1) := by decide +kernel
theorem dX4_lightestLeft_34 : decode cX4_lightestLeft 34 = .ok (.aload_n 0, 1) := by decide +kernel
theorem dX4_lightestLeft_35 : decode cX4_lightestLeft 35 = .ok (.getfield 21, 3) := by decide +kernel
theorem dX4_lightestLeft_38 : decode cX4_lightestLeft 38 = .ok (.iload_n 1, 1) := by decide +kernel
theorem dX4_lightestLeft_39 : decode cX4_lightestLeft 39 = .ok (.laload, 1) := by decide +kernel
theorem dX4_lightestLeft_40 : decode cX4_lightestLeft 40 = .ok (.lcmp, 1) := by decide +kernel
theorem dX4_lightestLeft_41 : decode cX4_lightestLeft 41 = .ok (.ifCond .ge 5, 3) := by decide +kernel
theorem dX4_lightestLeft_44 : decode cX4_lightestLeft 44 = .ok (.iload_n 2, 1) := by decide +kernel
theorem dX4_lightestLeft_45 : decode cX4_lightestLeft 45 = .ok (.istore_n 1, 1) := by decide +kernel
theorem dX4_lightestLeft_46 : decode cX4_lightestLeft 46 = .ok (.iinc 2 1, 3) := by decide +kernel
theorem dX4_lightestLeft_49 : decode cX4_lightestLeft 49 = .ok (.goto (-45), 3) := by decide +kernel
theorem dX4_lightestLeft_52 : decode cX4_lightestLeft 52 = .ok (.iload_n 1, 1) := by decide +kernel
theorem dX4_lightestLeft_53 : decode cX4_lightestLeft 53 = .ok (.ireturn, 1) := by decide +kernel
set_option maxRecDepth 20000 in
theorem ggX4_strike_X4_mark : GoodIn wsX4_strike wsX4_mark := goodIn_r _ [6] (by decide +kernel) (by decide +kernel)
set_option maxRecDepth 20000 in
theorem gX4_strike_X4_mark : GoodIn wsX4_strike (va_wsS RX4 40 yX4_mark wsX4_mark) := goodIn_app (goodIn_of _ (by decide +kernel)) ggX4_strike_X4_mark
theorem dX4_strike_0 : decode cX4_strike 0 = .ok (.iconst 0, 1) := by decide +kernel
theorem dX4_strike_1 : decode cX4_strike 1 = .ok (.istore_n 3, 1) := by decide +kernel
theorem dX4_strike_2 : decode cX4_strike 2 = .ok (.iload_n 3, 1) := by decide +kernel
theorem dX4_strike_3 : decode cX4_strike 3 = .ok (.aload_n 0, 1) := by decide +kernel
theorem dX4_strike_4 : decode cX4_strike 4 = .ok (.getfield 44, 3) := by decide +kernel
theorem dX4_strike_7 : decode cX4_strike 7 = .ok (.if_icmp .ge 35, 3) := by decide +kernel
theorem dX4_strike_10 : decode cX4_strike 10 = .ok (.aload_n 0, 1) := by decide +kernel
theorem dX4_strike_11 : decode cX4_strike 11 = .ok (.getfield 18, 3) := by decide +kernel
theorem dX4_strike_14 : decode cX4_strike 14 = .ok (.iload_n 3, 1) := by decide +kernel
theorem dX4_strike_15 : decode cX4_strike 15 = .ok (.laload, 1) := by decide +kernel
theorem dX4_strike_16 : decode cX4_strike 16 = .ok (.lload_n 1, 1) := by decide +kernel
theorem dX4_strike_17 : decode cX4_strike 17 = .ok (.invokestatic 40, 3) := by decide +kernel
theorem dX4_strike_20 : decode cX4_strike 20 = .ok (.land, 1) := by decide +kernel
theorem dX4_strike_21 : decode cX4_strike 21 = .ok (.lconst 0, 1) := by decide +kernel
theorem dX4_strike_22 : decode cX4_strike 22 = .ok (.lcmp, 1) := by decide +kernel
theorem dX4_strike_23 : decode cX4_strike 23 = .ok (.ifCond .eq 13, 3) := by decide +kernel
theorem dX4_strike_26 : decode cX4_strike 26 = .ok (.aload_n 0, 1) := by decide +kernel
theorem dX4_strike_27 : decode cX4_strike 27 = .ok (.getfield 18, 3) := by decide +kernel
theorem dX4_strike_30 : decode cX4_strike 30 = .ok (.iload_n 3, 1) := by decide +kernel
theorem dX4_strike_31 : decode cX4_strike 31 = .ok (.dup2, 1) := by decide +kernel
theorem dX4_strike_32 : decode cX4_strike 32 = .ok (.laload, 1) := by decide +kernel
theorem dX4_strike_33 : decode cX4_strike 33 = .ok (.lload_n 1, 1) := by decide +kernel
theorem dX4_strike_34 : decode cX4_strike 34 = .ok (.lxor, 1) := by decide +kernel
theorem dX4_strike_35 : decode cX4_strike 35 = .ok (.lastore, 1) := by decide +kernel
theorem dX4_strike_36 : decode cX4_strike 36 = .ok (.iinc 3 1, 3) := by decide +kernel
theorem dX4_strike_39 : decode cX4_strike 39 = .ok (.goto (-37), 3) := by decide +kernel
theorem dX4_strike_42 : decode cX4_strike 42 = .ok (.return_, 1) := by decide +kernel
theorem dX4_mark_0 : decode cX4_mark 0 = .ok (.lload_n 0, 1) := by decide +kernel
theorem dX4_mark_1 : decode cX4_mark 1 = .ok (.lload_n 0, 1) := by decide +kernel
theorem dX4_mark_2 : decode cX4_mark 2 = .ok (.lneg, 1) := by decide +kernel
theorem dX4_mark_3 : decode cX4_mark 3 = .ok (.land, 1) := by decide +kernel
theorem dX4_mark_4 : decode cX4_mark 4 = .ok (.lreturn, 1) := by decide +kernel
theorem dX5_init_0 : decode cX5_init 0 = .ok (.aload_n 0, 1) := by decide +kernel
theorem dX5_init_1 : decode cX5_init 1 = .ok (.invokespecial 3, 3) := by decide +kernel
theorem dX5_init_4 : decode cX5_init 4 = .ok (.aload_n 0, 1) := by decide +kernel
theorem dX5_init_5 : decode cX5_init 5 = .ok (.bipush 40, 2) := by decide +kernel
theorem dX5_init_7 : decode cX5_init 7 = .ok (.newarray .long, 2) := by decide +kernel
theorem dX5_init_9 : decode cX5_init 9 = .ok (.putfield 9, 3) := by decide +kernel
theorem dX5_init_12 : decode cX5_init 12 = .ok (.return_, 1) := by decide +kernel
set_option maxRecDepth 20000 in
theorem ggX5_append_X5_rest : GoodIn wsX5_append wsX5_rest := goodIn_r _ [8, 1, 9, 10, 11, 21, 22, 23] (by decide +kernel) (by decide +kernel)
set_option maxRecDepth 20000 in
theorem gX5_append_X5_rest : GoodIn wsX5_append (wsV RX5 15 RX5 yX5_rest wsX5_rest) := goodIn_app (goodIn_of _ (by decide +kernel)) ggX5_append_X5_rest
set_option maxRecDepth 20000 in
theorem ggX5_append_J13_numberOfTrailingZeros_95d88 : GoodIn wsX5_append wsJ13_numberOfTrailingZeros_95d88 := goodIn_r _ [15, 16, 17, 18, 19, 20] (by decide +kernel) (by decide +kernel)
set_option maxRecDepth 20000 in
theorem gX5_append_J13_numberOfTrailingZeros_95d88 : GoodIn wsX5_append (va_wsS RX5 19 yJ13_numberOfTrailingZeros_95d88 wsJ13_numberOfTrailingZeros_95d88) := goodIn_app (goodIn_of _ (by decide +kernel)) ggX5_append_J13_numberOfTrailingZeros_95d88
theorem dX5_append_0 : decode cX5_append 0 = .ok (.aload_n 0, 1) := by decide +kernel
theorem dX5_append_1 : decode cX5_append 1 = .ok (.lload_n 1, 1) := by decide +kernel
theorem dX5_append_2 : decode cX5_append 2 = .ok (.invokevirtual 15, 3) := by decide +kernel
theorem dX5_append_5 : decode cX5_append 5 = .ok (.lstore_n 3, 1) := by decide +kernel
theorem dX5_append_6 : decode cX5_append 6 = .ok (.lload_n 3, 1) := by decide +kernel
theorem dX5_append_7 : decode cX5_append 7 = .ok (.lconst 0, 1) := by decide +kernel
theorem dX5_append_8 : decode cX5_append 8 = .ok (.lcmp, 1) := by decide +kernel
theorem dX5_append_9 : decode cX5_append 9 = .ok (.ifCond .eq 23, 3) := by decide +kernel
theorem dX5_append_12 : decode cX5_append 12 = .ok (.aload_n 0, 1) := by decide +kernel
theorem dX5_append_13 : decode cX5_append 13 = .ok (.getfield 9, 3) := by decide +kernel
theorem dX5_append_16 : decode cX5_append 16 = .ok (.lload_n 3, 1) := by decide +kernel
theorem dX5_append_17 : decode cX5_append 17 = .ok (.invokestatic 19, 3) := by decide +kernel
theorem dX5_append_20 : decode cX5_append 20 = .ok (.lload_n 3, 1) := by decide +kernel
theorem dX5_append_21 : decode cX5_append 21 = .ok (.lastore, 1) := by decide +kernel
theorem dX5_append_22 : decode cX5_append 22 = .ok (.aload_n 0, 1) := by decide +kernel
theorem dX5_append_23 : decode cX5_append 23 = .ok (.dup, 1) := by decide +kernel
theorem dX5_append_24 : decode cX5_append 24 = .ok (.getfield 25, 3) := by decide +kernel
theorem dX5_append_27 : decode cX5_append 27 = .ok (.iconst 1, 1) := by decide +kernel
theorem dX5_append_28 : decode cX5_append 28 = .ok (.iadd, 1) := by decide +kernel
theorem dX5_append_29 : decode cX5_append 29 = .ok (.putfield 25, 3) := by decide +kernel
theorem dX5_append_32 : decode cX5_append 32 = .ok (.aload_n 0, 1) := by decide +kernel
theorem dX5_append_33 : decode cX5_append 33 = .ok (.dup, 1) := by decide +kernel
theorem dX5_append_34 : decode cX5_append 34 = .ok (.getfield 29, 3) := by decide +kernel
theorem dX5_append_37 : decode cX5_append 37 = .ok (.iconst 1, 1) := by decide +kernel
theorem dX5_append_38 : decode cX5_append 38 = .ok (.iadd, 1) := by decide +kernel
theorem dX5_append_39 : decode cX5_append 39 = .ok (.putfield 29, 3) := by decide +kernel
theorem dX5_append_42 : decode cX5_append 42 = .ok (.aload_n 0, 1) := by decide +kernel
theorem dX5_append_43 : decode cX5_append 43 = .ok (.getfield 29, 3) := by decide +kernel
theorem dX5_append_46 : decode cX5_append 46 = .ok (.ireturn, 1) := by decide +kernel
set_option maxRecDepth 20000 in
theorem ggX5_empty_J7_fill_d0a16 : GoodIn wsX5_empty wsJ7_fill_d0a16 := goodIn_r _ [7] (by decide +kernel) (by decide +kernel)
set_option maxRecDepth 20000 in
theorem gX5_empty_J7_fill_d0a16 : GoodIn wsX5_empty (va_wsS RX5 32 yJ7_fill_d0a16 wsJ7_fill_d0a16) := goodIn_app (goodIn_of _ (by decide +kernel)) ggX5_empty_J7_fill_d0a16
theorem dX5_empty_0 : decode cX5_empty 0 = .ok (.aload_n 0, 1) := by decide +kernel
theorem dX5_empty_1 : decode cX5_empty 1 = .ok (.iconst 0, 1) := by decide +kernel
theorem dX5_empty_2 : decode cX5_empty 2 = .ok (.putfield 29, 3) := by decide +kernel
theorem dX5_empty_5 : decode cX5_empty 5 = .ok (.aload_n 0, 1) := by decide +kernel
theorem dX5_empty_6 : decode cX5_empty 6 = .ok (.iconst 0, 1) := by decide +kernel
theorem dX5_empty_7 : decode cX5_empty 7 = .ok (.putfield 25, 3) := by decide +kernel
theorem dX5_empty_10 : decode cX5_empty 10 = .ok (.aload_n 0, 1) := by decide +kernel
theorem dX5_empty_11 : decode cX5_empty 11 = .ok (.getfield 9, 3) := by decide +kernel
theorem dX5_empty_14 : decode cX5_empty 14 = .ok (.lconst 0, 1) := by decide +kernel
theorem dX5_empty_15 : decode cX5_empty 15 = .ok (.invokestatic 32, 3) := by decide +kernel
theorem dX5_empty_18 : decode cX5_empty 18 = .ok (.return_, 1) := by decide +kernel
set_option maxRecDepth 20000 in
theorem ggX5_rest_X7_has : GoodIn wsX5_rest wsX7_has := goodIn_r _ [4] (by decide +kernel) (by decide +kernel)
set_option maxRecDepth 20000 in
theorem gX5_rest_X7_has_n38 : GoodIn wsX5_rest (wsX7_has) := ggX5_rest_X7_has
theorem dX5_rest_0 : decode cX5_rest 0 = .ok (.lload_n 1, 1) := by decide +kernel
theorem dX5_rest_1 : decode cX5_rest 1 = .ok (.lstore_n 3, 1) := by decide +kernel
theorem dX5_rest_2 : decode cX5_rest 2 = .ok (.iconst 0, 1) := by decide +kernel
theorem dX5_rest_3 : decode cX5_rest 3 = .ok (.istore 5, 2) := by decide +kernel
theorem dX5_rest_5 : decode cX5_rest 5 = .ok (.iload 5, 2) := by decide +kernel
theorem dX5_rest_7 : decode cX5_rest 7 = .ok (.bipush 40, 2) := by decide +kernel
theorem dX5_rest_9 : decode cX5_rest 9 = .ok (.if_icmp .ge 28, 3) := by decide +kernel
theorem dX5_rest_12 : decode cX5_rest 12 = .ok (.lload_n 3, 1) := by decide +kernel
theorem dX5_rest_13 : decode cX5_rest 13 = .ok (.iload 5, 2) := by decide +kernel
theorem dX5_rest_15 : decode cX5_rest 15 = .ok (.invokestatic 38, 3) := by decide +kernel
theorem dX5_rest_18 : decode cX5_rest 18 = .ok (.ifCond .eq 13, 3) := by decide +kernel
theorem dX5_rest_21 : decode cX5_rest 21 = .ok (.lload_n 3, 1) := by decide +kernel
theorem dX5_rest_22 : decode cX5_rest 22 = .ok (.aload_n 0, 1) := by decide +kernel
theorem dX5_rest_23 : decode cX5_rest 23 = .ok (.getfield 9, 3) := by decide +kernel
theorem dX5_rest_26 : decode cX5_rest 26 = .ok (.iload 5, 2) := by decide +kernel
theorem dX5_rest_28 : decode cX5_rest 28 = .ok (.laload, 1) := by decide +kernel
theorem dX5_rest_29 : decode cX5_rest 29 = .ok (.lxor, 1) := by decide +kernel
theorem dX5_rest_30 : decode cX5_rest 30 = .ok (.lstore_n 3, 1) := by decide +kernel
theorem dX5_rest_31 : decode cX5_rest 31 = .ok (.iinc 5 1, 3) := by decide +kernel
theorem dX5_rest_34 : decode cX5_rest 34 = .ok (.goto (-29), 3) := by decide +kernel
theorem dX5_rest_37 : decode cX5_rest 37 = .ok (.lload_n 3, 1) := by decide +kernel
theorem dX5_rest_38 : decode cX5_rest 38 = .ok (.lreturn, 1) := by decide +kernel
theorem dX6_init_0 : decode cX6_init 0 = .ok (.aload_n 0, 1) := by decide +kernel
theorem dX6_init_1 : decode cX6_init 1 = .ok (.invokespecial 3, 3) := by decide +kernel
theorem dX6_init_4 : decode cX6_init 4 = .ok (.aload_n 0, 1) := by decide +kernel
theorem dX6_init_5 : decode cX6_init 5 = .ok (.bipush 16, 2) := by decide +kernel
theorem dX6_init_7 : decode cX6_init 7 = .ok (.newarray .long, 2) := by decide +kernel
theorem dX6_init_9 : decode cX6_init 9 = .ok (.putfield 9, 3) := by decide +kernel
theorem dX6_init_12 : decode cX6_init 12 = .ok (.aload_n 0, 1) := by decide +kernel
theorem dX6_init_13 : decode cX6_init 13 = .ok (.bipush 16, 2) := by decide +kernel
theorem dX6_init_15 : decode cX6_init 15 = .ok (.newarray .long, 2) := by decide +kernel
theorem dX6_init_17 : decode cX6_init 17 = .ok (.putfield 15, 3) := by decide +kernel
theorem dX6_init_20 : decode cX6_init 20 = .ok (.return_, 1) := by decide +kernel
set_option maxRecDepth 20000 in
theorem ggX6_seek_X6_shortenAll : GoodIn wsX6_seek wsX6_shortenAll := goodIn_r _ [8, 9, 10, 11, 7, 12, 1, 3, 13, 14, 15, 16, 17, 18, 19] (by decide +kernel) (by decide +kernel)
set_option maxRecDepth 20000 in
theorem gX6_seek_X6_shortenAll : GoodIn wsX6_seek (wsV RX6 26 RX6 yX6_shortenAll wsX6_shortenAll) := goodIn_app (goodIn_of _ (by decide +kernel)) ggX6_seek_X6_shortenAll
theorem dX6_seek_0 : decode cX6_seek 0 = .ok (.iconst 0, 1) := by decide +kernel
theorem dX6_seek_1 : decode cX6_seek 1 = .ok (.istore 4, 2) := by decide +kernel
theorem dX6_seek_3 : decode cX6_seek 3 = .ok (.iload 4, 2) := by decide +kernel
theorem dX6_seek_5 : decode cX6_seek 5 = .ok (.aload_n 1, 1) := by decide +kernel
theorem dX6_seek_6 : decode cX6_seek 6 = .ok (.getfield 18, 3) := by decide +kernel
theorem dX6_seek_9 : decode cX6_seek 9 = .ok (.if_icmp .ge 27, 3) := by decide +kernel
theorem dX6_seek_12 : decode cX6_seek 12 = .ok (.aload_n 0, 1) := by decide +kernel
theorem dX6_seek_13 : decode cX6_seek 13 = .ok (.getfield 9, 3) := by decide +kernel
theorem dX6_seek_16 : decode cX6_seek 16 = .ok (.iload 4, 2) := by decide +kernel
theorem dX6_seek_18 : decode cX6_seek 18 = .ok (.ldc2_w 24, 3) := by decide +kernel
theorem dX6_seek_21 : decode cX6_seek 21 = .ok (.lastore, 1) := by decide +kernel
theorem dX6_seek_22 : decode cX6_seek 22 = .ok (.aload_n 0, 1) := by decide +kernel
theorem dX6_seek_23 : decode cX6_seek 23 = .ok (.getfield 15, 3) := by decide +kernel
theorem dX6_seek_26 : decode cX6_seek 26 = .ok (.iload 4, 2) := by decide +kernel
theorem dX6_seek_28 : decode cX6_seek 28 = .ok (.lconst 0, 1) := by decide +kernel
theorem dX6_seek_29 : decode cX6_seek 29 = .ok (.lastore, 1) := by decide +kernel
theorem dX6_seek_30 : decode cX6_seek 30 = .ok (.iinc 4 1, 3) := by decide +kernel
theorem dX6_seek_33 : decode cX6_seek 33 = .ok (.goto (-30), 3) := by decide +kernel
theorem dX6_seek_36 : decode cX6_seek 36 = .ok (.aload_n 0, 1) := by decide +kernel
theorem dX6_seek_37 : decode cX6_seek 37 = .ok (.getfield 9, 3) := by decide +kernel
theorem dX6_seek_40 : decode cX6_seek 40 = .ok (.iload_n 2, 1) := by decide +kernel
theorem dX6_seek_41 : decode cX6_seek 41 = .ok (.lconst 0, 1) := by decide +kernel
theorem dX6_seek_42 : decode cX6_seek 42 = .ok (.lastore, 1) := by decide +kernel
theorem dX6_seek_43 : decode cX6_seek 43 = .ok (.iconst 1, 1) := by decide +kernel
theorem dX6_seek_44 : decode cX6_seek 44 = .ok (.istore 4, 2) := by decide +kernel
theorem dX6_seek_46 : decode cX6_seek 46 = .ok (.iconst 1, 1) := by decide +kernel
theorem dX6_seek_47 : decode cX6_seek 47 = .ok (.istore 5, 2) := by decide +kernel
theorem dX6_seek_49 : decode cX6_seek 49 = .ok (.iload 5, 2) := by decide +kernel
theorem dX6_seek_51 : decode cX6_seek 51 = .ok (.aload_n 1, 1) := by decide +kernel
theorem dX6_seek_52 : decode cX6_seek 52 = .ok (.getfield 18, 3) := by decide +kernel
theorem dX6_seek_55 : decode cX6_seek 55 = .ok (.if_icmp .ge 22, 3) := by decide +kernel
theorem dX6_seek_58 : decode cX6_seek 58 = .ok (.iload 4, 2) := by decide +kernel
theorem dX6_seek_60 : decode cX6_seek 60 = .ok (.ifCond .eq 17, 3) := by decide +kernel
theorem dX6_seek_63 : decode cX6_seek 63 = .ok (.aload_n 0, 1) := by decide +kernel
theorem dX6_seek_64 : decode cX6_seek 64 = .ok (.aload_n 1, 1) := by decide +kernel
theorem dX6_seek_65 : decode cX6_seek 65 = .ok (.iload_n 3, 1) := by decide +kernel
theorem dX6_seek_66 : decode cX6_seek 66 = .ok (.invokevirtual 26, 3) := by decide +kernel
theorem dX6_seek_69 : decode cX6_seek 69 = .ok (.istore 4, 2) := by decide +kernel
theorem dX6_seek_71 : decode cX6_seek 71 = .ok (.iinc 5 1, 3) := by decide +kernel
theorem dX6_seek_74 : decode cX6_seek 74 = .ok (.goto (-25), 3) := by decide +kernel
theorem dX6_seek_77 : decode cX6_seek 77 = .ok (.return_, 1) := by decide +kernel
theorem dX6_reaches_0 : decode cX6_reaches 0 = .ok (.aload_n 0, 1) := by decide +kernel
theorem dX6_reaches_1 : decode cX6_reaches 1 = .ok (.getfield 9, 3) := by decide +kernel
theorem dX6_reaches_4 : decode cX6_reaches 4 = .ok (.iload_n 1, 1) := by decide +kernel
theorem dX6_reaches_5 : decode cX6_reaches 5 = .ok (.laload, 1) := by decide +kernel
theorem dX6_reaches_6 : decode cX6_reaches 6 = .ok (.ldc2_w 24, 3) := by decide +kernel
theorem dX6_reaches_9 : decode cX6_reaches 9 = .ok (.lcmp, 1) := by decide +kernel
theorem dX6_reaches_10 : decode cX6_reaches 10 = .ok (.ifCond .ge 7, 3) := by decide +kernel
theorem dX6_reaches_13 : decode cX6_reaches 13 = .ok (.iconst 1, 1) := by decide +kernel
theorem dX6_reaches_14 : decode cX6_reaches 14 = .ok (.goto 4, 3) := by decide +kernel
theorem dX6_reaches_17 : decode cX6_reaches 17 = .ok (.iconst 0, 1) := by decide +kernel
theorem dX6_reaches_18 : decode cX6_reaches 18 = .ok (.ireturn, 1) := by decide +kernel
set_option maxRecDepth 20000 in
theorem ggX6_shortenAll_X6_shorten : GoodIn wsX6_shortenAll wsX6_shorten := goodIn_r _ [5, 6, 7, 13, 14] (by decide +kernel) (by decide +kernel)
set_option maxRecDepth 20000 in
theorem gX6_shortenAll_X6_shorten : GoodIn wsX6_shortenAll (wsV RX6 43 RX6 yX6_shorten wsX6_shorten) := goodIn_app (goodIn_of _ (by decide +kernel)) ggX6_shortenAll_X6_shorten
theorem dX6_shortenAll_0 : decode cX6_shortenAll 0 = .ok (.iconst 0, 1) := by decide +kernel
theorem dX6_shortenAll_1 : decode cX6_shortenAll 1 = .ok (.istore_n 3, 1) := by decide +kernel
theorem dX6_shortenAll_2 : decode cX6_shortenAll 2 = .ok (.iconst 0, 1) := by decide +kernel
theorem dX6_shortenAll_3 : decode cX6_shortenAll 3 = .ok (.istore 4, 2) := by decide +kernel
theorem dX6_shortenAll_5 : decode cX6_shortenAll 5 = .ok (.iload 4, 2) := by decide +kernel
theorem dX6_shortenAll_7 : decode cX6_shortenAll 7 = .ok (.aload_n 1, 1) := by decide +kernel
theorem dX6_shortenAll_8 : decode cX6_shortenAll 8 = .ok (.getfield 30, 3) := by decide +kernel
theorem dX6_shortenAll_11 : decode cX6_shortenAll 11 = .ok (.if_icmp .ge 73, 3) := by decide +kernel
theorem dX6_shortenAll_14 : decode cX6_shortenAll 14 = .ok (.iload 4, 2) := by decide +kernel
theorem dX6_shortenAll_16 : decode cX6_shortenAll 16 = .ok (.iload_n 2, 1) := by decide +kernel
theorem dX6_shortenAll_17 : decode cX6_shortenAll 17 = .ok (.if_icmp .eq 61, 3) := by decide +kernel
theorem dX6_shortenAll_20 : decode cX6_shortenAll 20 = .ok (.aload_n 1, 1) := by decide +kernel
theorem dX6_shortenAll_21 : decode cX6_shortenAll 21 = .ok (.getfield 33, 3) := by decide +kernel
theorem dX6_shortenAll_24 : decode cX6_shortenAll 24 = .ok (.iload 4, 2) := by decide +kernel
theorem dX6_shortenAll_26 : decode cX6_shortenAll 26 = .ok (.iaload, 1) := by decide +kernel
theorem dX6_shortenAll_27 : decode cX6_shortenAll 27 = .ok (.istore 5, 2) := by decide +kernel
theorem dX6_shortenAll_29 : decode cX6_shortenAll 29 = .ok (.aload_n 1, 1) := by decide +kernel
theorem dX6_shortenAll_30 : decode cX6_shortenAll 30 = .ok (.getfield 37, 3) := by decide +kernel
theorem dX6_shortenAll_33 : decode cX6_shortenAll 33 = .ok (.iload 4, 2) := by decide +kernel
theorem dX6_shortenAll_35 : decode cX6_shortenAll 35 = .ok (.iaload, 1) := by decide +kernel
theorem dX6_shortenAll_36 : decode cX6_shortenAll 36 = .ok (.istore 6, 2) := by decide +kernel
theorem dX6_shortenAll_38 : decode cX6_shortenAll 38 = .ok (.iload_n 3, 1) := by decide +kernel
theorem dX6_shortenAll_39 : decode cX6_shortenAll 39 = .ok (.aload_n 0, 1) := by decide +kernel
theorem dX6_shortenAll_40 : decode cX6_shortenAll 40 = .ok (.iload 5, 2) := by decide +kernel
theorem dX6_shortenAll_42 : decode cX6_shortenAll 42 = .ok (.iload 6, 2) := by decide +kernel
theorem dX6_shortenAll_44 : decode cX6_shortenAll 44 = .ok (.iload 4, 2) := by decide +kernel
theorem dX6_shortenAll_46 : decode cX6_shortenAll 46 = .ok (.aload_n 1, 1) := by decide +kernel
theorem dX6_shortenAll_47 : decode cX6_shortenAll 47 = .ok (.getfield 40, 3) := by decide +kernel
theorem dX6_shortenAll_50 : decode cX6_shortenAll 50 = .ok (.iload 4, 2) := by decide +kernel
theorem dX6_shortenAll_52 : decode cX6_shortenAll 52 = .ok (.iaload, 1) := by decide +kernel
theorem dX6_shortenAll_53 : decode cX6_shortenAll 53 = .ok (.invokevirtual 43, 3) := by decide +kernel
theorem dX6_shortenAll_56 : decode cX6_shortenAll 56 = .ok (.ior, 1) := by decide +kernel
theorem dX6_shortenAll_57 : decode cX6_shortenAll 57 = .ok (.istore_n 3, 1) := by decide +kernel
theorem dX6_shortenAll_58 : decode cX6_shortenAll 58 = .ok (.iload_n 3, 1) := by decide +kernel
theorem dX6_shortenAll_59 : decode cX6_shortenAll 59 = .ok (.aload_n 0, 1) := by decide +kernel
theorem dX6_shortenAll_60 : decode cX6_shortenAll 60 = .ok (.iload 6, 2) := by decide +kernel
theorem dX6_shortenAll_62 : decode cX6_shortenAll 62 = .ok (.iload 5, 2) := by decide +kernel
theorem dX6_shortenAll_64 : decode cX6_shortenAll 64 = .ok (.iload 4, 2) := by decide +kernel
theorem dX6_shortenAll_66 : decode cX6_shortenAll 66 = .ok (.aload_n 1, 1) := by decide +kernel
theorem dX6_shortenAll_67 : decode cX6_shortenAll 67 = .ok (.getfield 40, 3) := by decide +kernel
theorem dX6_shortenAll_70 : decode cX6_shortenAll 70 = .ok (.iload 4, 2) := by decide +kernel
theorem dX6_shortenAll_72 : decode cX6_shortenAll 72 = .ok (.iaload, 1) := by decide +kernel
theorem dX6_shortenAll_73 : decode cX6_shortenAll 73 = .ok (.invokevirtual 43, 3) := by decide +kernel
theorem dX6_shortenAll_76 : decode cX6_shortenAll 76 = .ok (.ior, 1) := by decide +kernel
theorem dX6_shortenAll_77 : decode cX6_shortenAll 77 = .ok (.istore_n 3, 1) := by decide +kernel
theorem dX6_shortenAll_78 : decode cX6_shortenAll 78 = .ok (.iinc 4 1, 3) := by decide +kernel
theorem dX6_shortenAll_81 : decode cX6_shortenAll 81 = .ok (.goto (-76), 3) := by decide +kernel
theorem dX6_shortenAll_84 : decode cX6_shortenAll 84 = .ok (.iload_n 3, 1) := by decide +kernel
theorem dX6_shortenAll_85 : decode cX6_shortenAll 85 = .ok (.ireturn, 1) := by decide +kernel
theorem dX6_shorten_0 : decode cX6_shorten 0 = .ok (.aload_n 0, 1) := by decide +kernel
theorem dX6_shorten_1 : decode cX6_shorten 1 = .ok (.getfield 9, 3) := by decide +kernel
theorem dX6_shorten_4 : decode cX6_shorten 4 = .ok (.iload_n 1, 1) := by decide +kernel
theorem dX6_shorten_5 : decode cX6_shorten 5 = .ok (.laload, 1) := by decide +kernel
theorem dX6_shorten_6 : decode cX6_shorten 6 = .ok (.iload 4, 2) := by decide +kernel
theorem dX6_shorten_8 : decode cX6_shorten 8 = .ok (.i2l, 1) := by decide +kernel
theorem dX6_shorten_9 : decode cX6_shorten 9 = .ok (.ladd, 1) := by decide +kernel
theorem dX6_shorten_10 : decode cX6_shorten 10 = .ok (.aload_n 0, 1) := by decide +kernel
theorem dX6_shorten_11 : decode cX6_shorten 11 = .ok (.getfield 9, 3) := by decide +kernel
theorem dX6_shorten_14 : decode cX6_shorten 14 = .ok (.iload_n 2, 1) := by decide +kernel
theorem dX6_shorten_15 : decode cX6_shorten 15 = .ok (.laload, 1) := by decide +kernel
theorem dX6_shorten_16 : decode cX6_shorten 16 = .ok (.lcmp, 1) := by decide +kernel
theorem dX6_shorten_17 : decode cX6_shorten 17 = .ok (.ifCond .lt 5, 3) := by decide +kernel
theorem dX6_shorten_20 : decode cX6_shorten 20 = .ok (.iconst 0, 1) := by decide +kernel
theorem dX6_shorten_21 : decode cX6_shorten 21 = .ok (.ireturn, 1) := by decide +kernel
theorem dX6_shorten_22 : decode cX6_shorten 22 = .ok (.aload_n 0, 1) := by decide +kernel
theorem dX6_shorten_23 : decode cX6_shorten 23 = .ok (.getfield 9, 3) := by decide +kernel
theorem dX6_shorten_26 : decode cX6_shorten 26 = .ok (.iload_n 2, 1) := by decide +kernel
theorem dX6_shorten_27 : decode cX6_shorten 27 = .ok (.aload_n 0, 1) := by decide +kernel
theorem dX6_shorten_28 : decode cX6_shorten 28 = .ok (.getfield 9, 3) := by decide +kernel
theorem dX6_shorten_31 : decode cX6_shorten 31 = .ok (.iload_n 1, 1) := by decide +kernel
theorem dX6_shorten_32 : decode cX6_shorten 32 = .ok (.laload, 1) := by decide +kernel
theorem dX6_shorten_33 : decode cX6_shorten 33 = .ok (.iload 4, 2) := by decide +kernel
theorem dX6_shorten_35 : decode cX6_shorten 35 = .ok (.i2l, 1) := by decide +kernel
theorem dX6_shorten_36 : decode cX6_shorten 36 = .ok (.ladd, 1) := by decide +kernel
theorem dX6_shorten_37 : decode cX6_shorten 37 = .ok (.lastore, 1) := by decide +kernel
theorem dX6_shorten_38 : decode cX6_shorten 38 = .ok (.aload_n 0, 1) := by decide +kernel
theorem dX6_shorten_39 : decode cX6_shorten 39 = .ok (.getfield 15, 3) := by decide +kernel
theorem dX6_shorten_42 : decode cX6_shorten 42 = .ok (.iload_n 2, 1) := by decide +kernel
theorem dX6_shorten_43 : decode cX6_shorten 43 = .ok (.aload_n 0, 1) := by decide +kernel
theorem dX6_shorten_44 : decode cX6_shorten 44 = .ok (.getfield 15, 3) := by decide +kernel
theorem dX6_shorten_47 : decode cX6_shorten 47 = .ok (.iload_n 1, 1) := by decide +kernel
theorem dX6_shorten_48 : decode cX6_shorten 48 = .ok (.laload, 1) := by decide +kernel
theorem dX6_shorten_49 : decode cX6_shorten 49 = .ok (.lconst 1, 1) := by decide +kernel
theorem dX6_shorten_50 : decode cX6_shorten 50 = .ok (.iload_n 3, 1) := by decide +kernel
theorem dX6_shorten_51 : decode cX6_shorten 51 = .ok (.lshl, 1) := by decide +kernel
theorem dX6_shorten_52 : decode cX6_shorten 52 = .ok (.lxor, 1) := by decide +kernel
theorem dX6_shorten_53 : decode cX6_shorten 53 = .ok (.lastore, 1) := by decide +kernel
theorem dX6_shorten_54 : decode cX6_shorten 54 = .ok (.iconst 1, 1) := by decide +kernel
theorem dX6_shorten_55 : decode cX6_shorten 55 = .ok (.ireturn, 1) := by decide +kernel
theorem dX8_init_0 : decode cX8_init 0 = .ok (.aload_n 0, 1) := by decide +kernel
theorem dX8_init_1 : decode cX8_init 1 = .ok (.invokespecial 1, 3) := by decide +kernel
theorem dX8_init_4 : decode cX8_init 4 = .ok (.aload_n 0, 1) := by decide +kernel
theorem dX8_init_5 : decode cX8_init 5 = .ok (.iconst 1, 1) := by decide +kernel
theorem dX8_init_6 : decode cX8_init 6 = .ok (.putfield 7, 3) := by decide +kernel
theorem dX8_init_9 : decode cX8_init 9 = .ok (.aload_n 0, 1) := by decide +kernel
theorem dX8_init_10 : decode cX8_init 10 = .ok (.bipush 40, 2) := by decide +kernel
theorem dX8_init_12 : decode cX8_init 12 = .ok (.newarray .int, 2) := by decide +kernel
theorem dX8_init_14 : decode cX8_init 14 = .ok (.putfield 13, 3) := by decide +kernel
theorem dX8_init_17 : decode cX8_init 17 = .ok (.aload_n 0, 1) := by decide +kernel
theorem dX8_init_18 : decode cX8_init 18 = .ok (.bipush 40, 2) := by decide +kernel
theorem dX8_init_20 : decode cX8_init 20 = .ok (.newarray .int, 2) := by decide +kernel
theorem dX8_init_22 : decode cX8_init 22 = .ok (.putfield 17, 3) := by decide +kernel
theorem dX8_init_25 : decode cX8_init 25 = .ok (.aload_n 0, 1) := by decide +kernel
theorem dX8_init_26 : decode cX8_init 26 = .ok (.bipush 40, 2) := by decide +kernel
theorem dX8_init_28 : decode cX8_init 28 = .ok (.newarray .int, 2) := by decide +kernel
theorem dX8_init_30 : decode cX8_init 30 = .ok (.putfield 20, 3) := by decide +kernel
theorem dX8_init_33 : decode cX8_init 33 = .ok (.aload_n 0, 1) := by decide +kernel
theorem dX8_init_34 : decode cX8_init 34 = .ok (.bipush 64, 2) := by decide +kernel
theorem dX8_init_36 : decode cX8_init 36 = .ok (.newarray .long, 2) := by decide +kernel
theorem dX8_init_38 : decode cX8_init 38 = .ok (.putfield 23, 3) := by decide +kernel
theorem dX8_init_41 : decode cX8_init 41 = .ok (.aload_n 0, 1) := by decide +kernel
theorem dX8_init_42 : decode cX8_init 42 = .ok (.bipush 16, 2) := by decide +kernel
theorem dX8_init_44 : decode cX8_init 44 = .ok (.newarray .int, 2) := by decide +kernel
theorem dX8_init_46 : decode cX8_init 46 = .ok (.putfield 27, 3) := by decide +kernel
theorem dX8_init_49 : decode cX8_init 49 = .ok (.aload_n 0, 1) := by decide +kernel
theorem dX8_init_50 : decode cX8_init 50 = .ok (.bipush 16, 2) := by decide +kernel
theorem dX8_init_52 : decode cX8_init 52 = .ok (.newarray .long, 2) := by decide +kernel
theorem dX8_init_54 : decode cX8_init 54 = .ok (.putfield 30, 3) := by decide +kernel
theorem dX8_init_57 : decode cX8_init 57 = .ok (.aload_n 0, 1) := by decide +kernel
theorem dX8_init_58 : decode cX8_init 58 = .ok (.bipush 40, 2) := by decide +kernel
theorem dX8_init_60 : decode cX8_init 60 = .ok (.newarray .long, 2) := by decide +kernel
theorem dX8_init_62 : decode cX8_init 62 = .ok (.putfield 33, 3) := by decide +kernel
theorem dX8_init_65 : decode cX8_init 65 = .ok (.aload_n 0, 1) := by decide +kernel
theorem dX8_init_66 : decode cX8_init 66 = .ok (.bipush 40, 2) := by decide +kernel
theorem dX8_init_68 : decode cX8_init 68 = .ok (.newarray .int, 2) := by decide +kernel
theorem dX8_init_70 : decode cX8_init 70 = .ok (.putfield 36, 3) := by decide +kernel
theorem dX8_init_73 : decode cX8_init 73 = .ok (.aload_n 0, 1) := by decide +kernel
theorem dX8_init_74 : decode cX8_init 74 = .ok (.sipush 16384, 3) := by decide +kernel
theorem dX8_init_77 : decode cX8_init 77 = .ok (.newarray .long, 2) := by decide +kernel
theorem dX8_init_79 : decode cX8_init 79 = .ok (.putfield 39, 3) := by decide +kernel
theorem dX8_init_82 : decode cX8_init 82 = .ok (.aload_n 0, 1) := by decide +kernel
theorem dX8_init_83 : decode cX8_init 83 = .ok (.sipush 16384, 3) := by decide +kernel
theorem dX8_init_86 : decode cX8_init 86 = .ok (.newarray .long, 2) := by decide +kernel
theorem dX8_init_88 : decode cX8_init 88 = .ok (.putfield 42, 3) := by decide +kernel
theorem dX8_init_91 : decode cX8_init 91 = .ok (.aload_n 0, 1) := by decide +kernel
theorem dX8_init_92 : decode cX8_init 92 = .ok (.bipush 64, 2) := by decide +kernel
theorem dX8_init_94 : decode cX8_init 94 = .ok (.newarray .long, 2) := by decide +kernel
theorem dX8_init_96 : decode cX8_init 96 = .ok (.putfield 45, 3) := by decide +kernel
theorem dX8_init_99 : decode cX8_init 99 = .ok (.aload_n 0, 1) := by decide +kernel
theorem dX8_init_100 : decode cX8_init 100 = .ok (.sipush 256, 3) := by decide +kernel
theorem dX8_init_103 : decode cX8_init 103 = .ok (.newarray .long, 2) := by decide +kernel
theorem dX8_init_105 : decode cX8_init 105 = .ok (.putfield 48, 3) := by decide +kernel
theorem dX8_init_108 : decode cX8_init 108 = .ok (.aload_n 0, 1) := by decide +kernel
theorem dX8_init_109 : decode cX8_init 109 = .ok (.bipush 16, 2) := by decide +kernel
theorem dX8_init_111 : decode cX8_init 111 = .ok (.newarray .int, 2) := by decide +kernel
theorem dX8_init_113 : decode cX8_init 113 = .ok (.putfield 51, 3) := by decide +kernel
theorem dX8_init_116 : decode cX8_init 116 = .ok (.aload_n 0, 1) := by decide +kernel
theorem dX8_init_117 : decode cX8_init 117 = .ok (.bipush 16, 2) := by decide +kernel
theorem dX8_init_119 : decode cX8_init 119 = .ok (.newarray .boolean, 2) := by decide +kernel
theorem dX8_init_121 : decode cX8_init 121 = .ok (.putfield 54, 3) := by decide +kernel
theorem dX8_init_124 : decode cX8_init 124 = .ok (.return_, 1) := by decide +kernel
theorem dX8_thrown_0 : decode cX8_thrown 0 = .ok (.aload_n 0, 1) := by decide +kernel
theorem dX8_thrown_1 : decode cX8_thrown 1 = .ok (.getfield 58, 3) := by decide +kernel
theorem dX8_thrown_4 : decode cX8_thrown 4 = .ok (.ireturn, 1) := by decide +kernel
theorem dX8_throwing_0 : decode cX8_throwing 0 = .ok (.aload_n 0, 1) := by decide +kernel
theorem dX8_throwing_1 : decode cX8_throwing 1 = .ok (.iload_n 1, 1) := by decide +kernel
theorem dX8_throwing_2 : decode cX8_throwing 2 = .ok (.ifCond .eq 7, 3) := by decide +kernel
theorem dX8_throwing_5 : decode cX8_throwing 5 = .ok (.iconst 1, 1) := by decide +kernel
theorem dX8_throwing_6 : decode cX8_throwing 6 = .ok (.goto 12, 3) := by decide +kernel
theorem dX8_throwing_9 : decode cX8_throwing 9 = .ok (.iload_n 2, 1) := by decide +kernel
theorem dX8_throwing_10 : decode cX8_throwing 10 = .ok (.ifCond .eq 7, 3) := by decide +kernel
theorem dX8_throwing_13 : decode cX8_throwing 13 = .ok (.iconst 2, 1) := by decide +kernel
theorem dX8_throwing_14 : decode cX8_throwing 14 = .ok (.goto 4, 3) := by decide +kernel
theorem dX8_throwing_17 : decode cX8_throwing 17 = .ok (.iconst 0, 1) := by decide +kernel
theorem dX8_throwing_18 : decode cX8_throwing 18 = .ok (.putfield 58, 3) := by decide +kernel
theorem dX8_throwing_21 : decode cX8_throwing 21 = .ok (.aload_n 0, 1) := by decide +kernel
theorem dX8_throwing_22 : decode cX8_throwing 22 = .ok (.getfield 58, 3) := by decide +kernel
theorem dX8_throwing_25 : decode cX8_throwing 25 = .ok (.ifCond .le 7, 3) := by decide +kernel
theorem dX8_throwing_28 : decode cX8_throwing 28 = .ok (.iconst 1, 1) := by decide +kernel
theorem dX8_throwing_29 : decode cX8_throwing 29 = .ok (.goto 4, 3) := by decide +kernel
theorem dX8_throwing_32 : decode cX8_throwing 32 = .ok (.iconst 0, 1) := by decide +kernel
theorem dX8_throwing_33 : decode cX8_throwing 33 = .ok (.ireturn, 1) := by decide +kernel
theorem dX8_isVertex_0 : decode cX8_isVertex 0 = .ok (.iload_n 1, 1) := by decide +kernel
theorem dX8_isVertex_1 : decode cX8_isVertex 1 = .ok (.ifCond .lt 15, 3) := by decide +kernel
theorem dX8_isVertex_4 : decode cX8_isVertex 4 = .ok (.iload_n 1, 1) := by decide +kernel
theorem dX8_isVertex_5 : decode cX8_isVertex 5 = .ok (.aload_n 0, 1) := by decide +kernel
theorem dX8_isVertex_6 : decode cX8_isVertex 6 = .ok (.getfield 7, 3) := by decide +kernel
theorem dX8_isVertex_9 : decode cX8_isVertex 9 = .ok (.if_icmp .ge 7, 3) := by decide +kernel
theorem dX8_isVertex_12 : decode cX8_isVertex 12 = .ok (.iconst 1, 1) := by decide +kernel
theorem dX8_isVertex_13 : decode cX8_isVertex 13 = .ok (.goto 4, 3) := by decide +kernel
theorem dX8_isVertex_16 : decode cX8_isVertex 16 = .ok (.iconst 0, 1) := by decide +kernel
theorem dX8_isVertex_17 : decode cX8_isVertex 17 = .ok (.ireturn, 1) := by decide +kernel
theorem dX8_isSet_0 : decode cX8_isSet 0 = .ok (.lload_n 1, 1) := by decide +kernel
theorem dX8_isSet_1 : decode cX8_isSet 1 = .ok (.aload_n 0, 1) := by decide +kernel
theorem dX8_isSet_2 : decode cX8_isSet 2 = .ok (.getfield 61, 3) := by decide +kernel
theorem dX8_isSet_5 : decode cX8_isSet 5 = .ok (.lushr, 1) := by decide +kernel
theorem dX8_isSet_6 : decode cX8_isSet 6 = .ok (.lconst 0, 1) := by decide +kernel
theorem dX8_isSet_7 : decode cX8_isSet 7 = .ok (.lcmp, 1) := by decide +kernel
theorem dX8_isSet_8 : decode cX8_isSet 8 = .ok (.ifCond .ne 7, 3) := by decide +kernel
theorem dX8_isSet_11 : decode cX8_isSet 11 = .ok (.iconst 1, 1) := by decide +kernel
theorem dX8_isSet_12 : decode cX8_isSet 12 = .ok (.goto 4, 3) := by decide +kernel
theorem dX8_isSet_15 : decode cX8_isSet 15 = .ok (.iconst 0, 1) := by decide +kernel
theorem dX8_isSet_16 : decode cX8_isSet 16 = .ok (.ireturn, 1) := by decide +kernel
theorem dX8_beginGroups_0 : decode cX8_beginGroups 0 = .ok (.aload_n 0, 1) := by decide +kernel
theorem dX8_beginGroups_1 : decode cX8_beginGroups 1 = .ok (.iconst 0, 1) := by decide +kernel
theorem dX8_beginGroups_2 : decode cX8_beginGroups 2 = .ok (.putfield 64, 3) := by decide +kernel
theorem dX8_beginGroups_5 : decode cX8_beginGroups 5 = .ok (.iconst 0, 1) := by decide +kernel
theorem dX8_beginGroups_6 : decode cX8_beginGroups 6 = .ok (.istore_n 1, 1) := by decide +kernel
theorem dX8_beginGroups_7 : decode cX8_beginGroups 7 = .ok (.iload_n 1, 1) := by decide +kernel
theorem dX8_beginGroups_8 : decode cX8_beginGroups 8 = .ok (.bipush 16, 2) := by decide +kernel
theorem dX8_beginGroups_10 : decode cX8_beginGroups 10 = .ok (.if_icmp .ge 23, 3) := by decide +kernel
theorem dX8_beginGroups_13 : decode cX8_beginGroups 13 = .ok (.aload_n 0, 1) := by decide +kernel
theorem dX8_beginGroups_14 : decode cX8_beginGroups 14 = .ok (.getfield 27, 3) := by decide +kernel
theorem dX8_beginGroups_17 : decode cX8_beginGroups 17 = .ok (.iload_n 1, 1) := by decide +kernel
theorem dX8_beginGroups_18 : decode cX8_beginGroups 18 = .ok (.iload_n 1, 1) := by decide +kernel
theorem dX8_beginGroups_19 : decode cX8_beginGroups 19 = .ok (.iastore, 1) := by decide +kernel
theorem dX8_beginGroups_20 : decode cX8_beginGroups 20 = .ok (.aload_n 0, 1) := by decide +kernel
theorem dX8_beginGroups_21 : decode cX8_beginGroups 21 = .ok (.getfield 30, 3) := by decide +kernel
theorem dX8_beginGroups_24 : decode cX8_beginGroups 24 = .ok (.iload_n 1, 1) := by decide +kernel
theorem dX8_beginGroups_25 : decode cX8_beginGroups 25 = .ok (.lconst 0, 1) := by decide +kernel
theorem dX8_beginGroups_26 : decode cX8_beginGroups 26 = .ok (.lastore, 1) := by decide +kernel
theorem dX8_beginGroups_27 : decode cX8_beginGroups 27 = .ok (.iinc 1 1, 3) := by decide +kernel
theorem dX8_beginGroups_30 : decode cX8_beginGroups 30 = .ok (.goto (-23), 3) := by decide +kernel
theorem dX8_beginGroups_33 : decode cX8_beginGroups 33 = .ok (.return_, 1) := by decide +kernel
theorem dX8_joins_0 : decode cX8_joins 0 = .ok (.aload_n 0, 1) := by decide +kernel
theorem dX8_joins_1 : decode cX8_joins 1 = .ok (.getfield 13, 3) := by decide +kernel
theorem dX8_joins_4 : decode cX8_joins 4 = .ok (.iload_n 1, 1) := by decide +kernel
theorem dX8_joins_5 : decode cX8_joins 5 = .ok (.iaload, 1) := by decide +kernel
theorem dX8_joins_6 : decode cX8_joins 6 = .ok (.istore_n 2, 1) := by decide +kernel
theorem dX8_joins_7 : decode cX8_joins 7 = .ok (.aload_n 0, 1) := by decide +kernel
theorem dX8_joins_8 : decode cX8_joins 8 = .ok (.getfield 17, 3) := by decide +kernel
theorem dX8_joins_11 : decode cX8_joins 11 = .ok (.iload_n 1, 1) := by decide +kernel
theorem dX8_joins_12 : decode cX8_joins 12 = .ok (.iaload, 1) := by decide +kernel
theorem dX8_joins_13 : decode cX8_joins 13 = .ok (.istore_n 3, 1) := by decide +kernel
theorem dX8_joins_14 : decode cX8_joins 14 = .ok (.aload_n 0, 1) := by decide +kernel
theorem dX8_joins_15 : decode cX8_joins 15 = .ok (.getfield 27, 3) := by decide +kernel
theorem dX8_joins_18 : decode cX8_joins 18 = .ok (.iload_n 2, 1) := by decide +kernel
theorem dX8_joins_19 : decode cX8_joins 19 = .ok (.iaload, 1) := by decide +kernel
theorem dX8_joins_20 : decode cX8_joins 20 = .ok (.aload_n 0, 1) := by decide +kernel
theorem dX8_joins_21 : decode cX8_joins 21 = .ok (.getfield 27, 3) := by decide +kernel
theorem dX8_joins_24 : decode cX8_joins 24 = .ok (.iload_n 3, 1) := by decide +kernel
theorem dX8_joins_25 : decode cX8_joins 25 = .ok (.iaload, 1) := by decide +kernel
theorem dX8_joins_26 : decode cX8_joins 26 = .ok (.if_icmp .ne 51, 3) := by decide +kernel
theorem dX8_joins_29 : decode cX8_joins 29 = .ok (.aload_n 0, 1) := by decide +kernel
theorem dX8_joins_30 : decode cX8_joins 30 = .ok (.getfield 33, 3) := by decide +kernel
theorem dX8_joins_33 : decode cX8_joins 33 = .ok (.aload_n 0, 1) := by decide +kernel
theorem dX8_joins_34 : decode cX8_joins 34 = .ok (.getfield 64, 3) := by decide +kernel
theorem dX8_joins_37 : decode cX8_joins 37 = .ok (.aload_n 0, 1) := by decide +kernel
theorem dX8_joins_38 : decode cX8_joins 38 = .ok (.getfield 30, 3) := by decide +kernel
theorem dX8_joins_41 : decode cX8_joins 41 = .ok (.iload_n 2, 1) := by decide +kernel
theorem dX8_joins_42 : decode cX8_joins 42 = .ok (.laload, 1) := by decide +kernel
theorem dX8_joins_43 : decode cX8_joins 43 = .ok (.aload_n 0, 1) := by decide +kernel
theorem dX8_joins_44 : decode cX8_joins 44 = .ok (.getfield 30, 3) := by decide +kernel
theorem dX8_joins_47 : decode cX8_joins 47 = .ok (.iload_n 3, 1) := by decide +kernel
theorem dX8_joins_48 : decode cX8_joins 48 = .ok (.laload, 1) := by decide +kernel
theorem dX8_joins_49 : decode cX8_joins 49 = .ok (.lxor, 1) := by decide +kernel
theorem dX8_joins_50 : decode cX8_joins 50 = .ok (.lconst 1, 1) := by decide +kernel
theorem dX8_joins_51 : decode cX8_joins 51 = .ok (.iload_n 1, 1) := by decide +kernel
theorem dX8_joins_52 : decode cX8_joins 52 = .ok (.lshl, 1) := by decide +kernel
theorem dX8_joins_53 : decode cX8_joins 53 = .ok (.lxor, 1) := by decide +kernel
theorem dX8_joins_54 : decode cX8_joins 54 = .ok (.lastore, 1) := by decide +kernel
theorem dX8_joins_55 : decode cX8_joins 55 = .ok (.aload_n 0, 1) := by decide +kernel
theorem dX8_joins_56 : decode cX8_joins 56 = .ok (.getfield 36, 3) := by decide +kernel
theorem dX8_joins_59 : decode cX8_joins 59 = .ok (.aload_n 0, 1) := by decide +kernel
theorem dX8_joins_60 : decode cX8_joins 60 = .ok (.getfield 64, 3) := by decide +kernel
theorem dX8_joins_63 : decode cX8_joins 63 = .ok (.iload_n 1, 1) := by decide +kernel
theorem dX8_joins_64 : decode cX8_joins 64 = .ok (.iastore, 1) := by decide +kernel
theorem dX8_joins_65 : decode cX8_joins 65 = .ok (.aload_n 0, 1) := by decide +kernel
theorem dX8_joins_66 : decode cX8_joins 66 = .ok (.dup, 1) := by decide +kernel
theorem dX8_joins_67 : decode cX8_joins 67 = .ok (.getfield 64, 3) := by decide +kernel
theorem dX8_joins_70 : decode cX8_joins 70 = .ok (.iconst 1, 1) := by decide +kernel
theorem dX8_joins_71 : decode cX8_joins 71 = .ok (.iadd, 1) := by decide +kernel
theorem dX8_joins_72 : decode cX8_joins 72 = .ok (.putfield 64, 3) := by decide +kernel
theorem dX8_joins_75 : decode cX8_joins 75 = .ok (.iconst 0, 1) := by decide +kernel
theorem dX8_joins_76 : decode cX8_joins 76 = .ok (.ireturn, 1) := by decide +kernel
theorem dX8_joins_77 : decode cX8_joins 77 = .ok (.aload_n 0, 1) := by decide +kernel
theorem dX8_joins_78 : decode cX8_joins 78 = .ok (.getfield 27, 3) := by decide +kernel
theorem dX8_joins_81 : decode cX8_joins 81 = .ok (.iload_n 3, 1) := by decide +kernel
theorem dX8_joins_82 : decode cX8_joins 82 = .ok (.iaload, 1) := by decide +kernel
theorem dX8_joins_83 : decode cX8_joins 83 = .ok (.istore 4, 2) := by decide +kernel
theorem dX8_joins_85 : decode cX8_joins 85 = .ok (.aload_n 0, 1) := by decide +kernel
theorem dX8_joins_86 : decode cX8_joins 86 = .ok (.getfield 30, 3) := by decide +kernel
theorem dX8_joins_89 : decode cX8_joins 89 = .ok (.iload_n 2, 1) := by decide +kernel
theorem dX8_joins_90 : decode cX8_joins 90 = .ok (.laload, 1) := by decide +kernel
theorem dX8_joins_91 : decode cX8_joins 91 = .ok (.aload_n 0, 1) := by decide +kernel
theorem dX8_joins_92 : decode cX8_joins 92 = .ok (.getfield 30, 3) := by decide +kernel
theorem dX8_joins_95 : decode cX8_joins 95 = .ok (.iload_n 3, 1) := by decide +kernel
theorem dX8_joins_96 : decode cX8_joins 96 = .ok (.laload, 1) := by decide +kernel
theorem dX8_joins_97 : decode cX8_joins 97 = .ok (.lxor, 1) := by decide +kernel
theorem dX8_joins_98 : decode cX8_joins 98 = .ok (.lconst 1, 1) := by decide +kernel
theorem dX8_joins_99 : decode cX8_joins 99 = .ok (.iload_n 1, 1) := by decide +kernel
theorem dX8_joins_100 : decode cX8_joins 100 = .ok (.lshl, 1) := by decide +kernel
theorem dX8_joins_101 : decode cX8_joins 101 = .ok (.lxor, 1) := by decide +kernel
theorem dX8_joins_102 : decode cX8_joins 102 = .ok (.lstore 5, 2) := by decide +kernel
theorem dX8_joins_104 : decode cX8_joins 104 = .ok (.iconst 0, 1) := by decide +kernel
theorem dX8_joins_105 : decode cX8_joins 105 = .ok (.istore 7, 2) := by decide +kernel
theorem dX8_joins_107 : decode cX8_joins 107 = .ok (.iload 7, 2) := by decide +kernel
theorem dX8_joins_109 : decode cX8_joins 109 = .ok (.aload_n 0, 1) := by decide +kernel
theorem dX8_joins_110 : decode cX8_joins 110 = .ok (.getfield 7, 3) := by decide +kernel
theorem dX8_joins_113 : decode cX8_joins 113 = .ok (.if_icmp .ge 49, 3) := by decide +kernel
theorem dX8_joins_116 : decode cX8_joins 116 = .ok (.aload_n 0, 1) := by decide +kernel
theorem dX8_joins_117 : decode cX8_joins 117 = .ok (.getfield 27, 3) := by decide +kernel
theorem dX8_joins_120 : decode cX8_joins 120 = .ok (.iload 7, 2) := by decide +kernel
theorem dX8_joins_122 : decode cX8_joins 122 = .ok (.iaload, 1) := by decide +kernel
theorem dX8_joins_123 : decode cX8_joins 123 = .ok (.iload 4, 2) := by decide +kernel
theorem dX8_joins_125 : decode cX8_joins 125 = .ok (.if_icmp .eq 6, 3) := by decide +kernel
theorem dX8_joins_128 : decode cX8_joins 128 = .ok (.goto 28, 3) := by decide +kernel
theorem dX8_joins_131 : decode cX8_joins 131 = .ok (.aload_n 0, 1) := by decide +kernel
theorem dX8_joins_132 : decode cX8_joins 132 = .ok (.getfield 27, 3) := by decide +kernel
theorem dX8_joins_135 : decode cX8_joins 135 = .ok (.iload 7, 2) := by decide +kernel
theorem dX8_joins_137 : decode cX8_joins 137 = .ok (.aload_n 0, 1) := by decide +kernel
theorem dX8_joins_138 : decode cX8_joins 138 = .ok (.getfield 27, 3) := by decide +kernel
theorem dX8_joins_141 : decode cX8_joins 141 = .ok (.iload_n 2, 1) := by decide +kernel
theorem dX8_joins_142 : decode cX8_joins 142 = .ok (.iaload, 1) := by decide +kernel
theorem dX8_joins_143 : decode cX8_joins 143 = .ok (.iastore, 1) := by decide +kernel
theorem dX8_joins_144 : decode cX8_joins 144 = .ok (.aload_n 0, 1) := by decide +kernel
theorem dX8_joins_145 : decode cX8_joins 145 = .ok (.getfield 30, 3) := by decide +kernel
theorem dX8_joins_148 : decode cX8_joins 148 = .ok (.iload 7, 2) := by decide +kernel
theorem dX8_joins_150 : decode cX8_joins 150 = .ok (.dup2, 1) := by decide +kernel
theorem dX8_joins_151 : decode cX8_joins 151 = .ok (.laload, 1) := by decide +kernel
theorem dX8_joins_152 : decode cX8_joins 152 = .ok (.lload 5, 2) := by decide +kernel
theorem dX8_joins_154 : decode cX8_joins 154 = .ok (.lxor, 1) := by decide +kernel
theorem dX8_joins_155 : decode cX8_joins 155 = .ok (.lastore, 1) := by decide +kernel
theorem dX8_joins_156 : decode cX8_joins 156 = .ok (.iinc 7 1, 3) := by decide +kernel
theorem dX8_joins_159 : decode cX8_joins 159 = .ok (.goto (-52), 3) := by decide +kernel
theorem dX8_joins_162 : decode cX8_joins 162 = .ok (.iconst 1, 1) := by decide +kernel
theorem dX8_joins_163 : decode cX8_joins 163 = .ok (.ireturn, 1) := by decide +kernel
set_option maxRecDepth 20000 in
theorem ggX8_groups_X8_beginGroups : GoodIn wsX8_groups wsX8_beginGroups := goodIn_r _ [7, 8, 9, 10, 19, 20, 21, 22, 23, 24, 25, 26, 27, 28, 29, 30, 31, 32, 33, 34, 35, 36, 37, 38] (by decide +kernel) (by decide +kernel)
set_option maxRecDepth 20000 in
theorem gX8_groups_X8_beginGroups : GoodIn wsX8_groups (wsV RX8 67 RX8 yX8_beginGroups wsX8_beginGroups) := goodIn_app (goodIn_of _ (by decide +kernel)) ggX8_groups_X8_beginGroups
set_option maxRecDepth 20000 in
theorem ggX8_groups_X8_joins : GoodIn wsX8_groups wsX8_joins := goodIn_r _ [14, 15, 16, 9, 17, 8, 10, 18, 1, 19, 20, 21, 22, 23, 24, 25, 26, 27, 28, 29, 30, 31, 32, 33, 34, 35, 36, 37, 38] (by decide +kernel) (by decide +kernel)
set_option maxRecDepth 20000 in
theorem gX8_groups_X8_joins : GoodIn wsX8_groups (wsV RX8 70 RX8 yX8_joins wsX8_joins) := goodIn_app (goodIn_of _ (by decide +kernel)) ggX8_groups_X8_joins
theorem dX8_groups_0 : decode cX8_groups 0 = .ok (.aload_n 0, 1) := by decide +kernel
theorem dX8_groups_1 : decode cX8_groups 1 = .ok (.invokevirtual 67, 3) := by decide +kernel
theorem dX8_groups_4 : decode cX8_groups 4 = .ok (.aload_n 0, 1) := by decide +kernel
theorem dX8_groups_5 : decode cX8_groups 5 = .ok (.getfield 7, 3) := by decide +kernel
theorem dX8_groups_8 : decode cX8_groups 8 = .ok (.istore_n 1, 1) := by decide +kernel
theorem dX8_groups_9 : decode cX8_groups 9 = .ok (.iconst 0, 1) := by decide +kernel
theorem dX8_groups_10 : decode cX8_groups 10 = .ok (.istore_n 2, 1) := by decide +kernel
theorem dX8_groups_11 : decode cX8_groups 11 = .ok (.iload_n 2, 1) := by decide +kernel
theorem dX8_groups_12 : decode cX8_groups 12 = .ok (.aload_n 0, 1) := by decide +kernel
theorem dX8_groups_13 : decode cX8_groups 13 = .ok (.getfield 61, 3) := by decide +kernel
theorem dX8_groups_16 : decode cX8_groups 16 = .ok (.if_icmp .ge 25, 3) := by decide +kernel
theorem dX8_groups_19 : decode cX8_groups 19 = .ok (.iload_n 1, 1) := by decide +kernel
theorem dX8_groups_20 : decode cX8_groups 20 = .ok (.aload_n 0, 1) := by decide +kernel
theorem dX8_groups_21 : decode cX8_groups 21 = .ok (.iload_n 2, 1) := by decide +kernel
theorem dX8_groups_22 : decode cX8_groups 22 = .ok (.invokevirtual 70, 3) := by decide +kernel
theorem dX8_groups_25 : decode cX8_groups 25 = .ok (.ifCond .eq 7, 3) := by decide +kernel
theorem dX8_groups_28 : decode cX8_groups 28 = .ok (.iconst 1, 1) := by decide +kernel
theorem dX8_groups_29 : decode cX8_groups 29 = .ok (.goto 4, 3) := by decide +kernel
theorem dX8_groups_32 : decode cX8_groups 32 = .ok (.iconst 0, 1) := by decide +kernel
theorem dX8_groups_33 : decode cX8_groups 33 = .ok (.isub, 1) := by decide +kernel
theorem dX8_groups_34 : decode cX8_groups 34 = .ok (.istore_n 1, 1) := by decide +kernel
theorem dX8_groups_35 : decode cX8_groups 35 = .ok (.iinc 2 1, 3) := by decide +kernel
theorem dX8_groups_38 : decode cX8_groups 38 = .ok (.goto (-27), 3) := by decide +kernel
theorem dX8_groups_41 : decode cX8_groups 41 = .ok (.iload_n 1, 1) := by decide +kernel
theorem dX8_groups_42 : decode cX8_groups 42 = .ok (.ireturn, 1) := by decide +kernel
set_option maxRecDepth 20000 in
theorem ggX8_dimension_X8_groups : GoodIn wsX8_dimension wsX8_groups := goodIn_r _ [7, 2, 1, 8, 9, 10, 6, 11, 12, 13, 14, 15, 16, 17, 18, 19, 20, 21, 22, 23, 24, 25, 26, 27, 28, 29, 30, 31, 32, 33, 34, 35, 36, 37, 38, 39, 40, 41, 42] (by decide +kernel) (by decide +kernel)
set_option maxRecDepth 20000 in
theorem gX8_dimension_X8_groups : GoodIn wsX8_dimension (wsV RX8 74 RX8 yX8_groups wsX8_groups) := goodIn_app (goodIn_of _ (by decide +kernel)) ggX8_dimension_X8_groups
theorem dX8_dimension_0 : decode cX8_dimension 0 = .ok (.aload_n 0, 1) := by decide +kernel
theorem dX8_dimension_1 : decode cX8_dimension 1 = .ok (.getfield 61, 3) := by decide +kernel
theorem dX8_dimension_4 : decode cX8_dimension 4 = .ok (.aload_n 0, 1) := by decide +kernel
theorem dX8_dimension_5 : decode cX8_dimension 5 = .ok (.getfield 7, 3) := by decide +kernel
theorem dX8_dimension_8 : decode cX8_dimension 8 = .ok (.isub, 1) := by decide +kernel
theorem dX8_dimension_9 : decode cX8_dimension 9 = .ok (.aload_n 0, 1) := by decide +kernel
theorem dX8_dimension_10 : decode cX8_dimension 10 = .ok (.invokevirtual 74, 3) := by decide +kernel
theorem dX8_dimension_13 : decode cX8_dimension 13 = .ok (.iadd, 1) := by decide +kernel
theorem dX8_dimension_14 : decode cX8_dimension 14 = .ok (.ireturn, 1) := by decide +kernel
set_option maxRecDepth 20000 in
theorem ggX8_reset_X8_throwing : GoodIn wsX8_reset wsX8_throwing := goodIn_r _ [7, 8, 9, 10, 11, 12, 13, 14, 15, 16, 17, 18, 19, 20, 21, 22, 23, 24, 25, 26, 27, 28] (by decide +kernel) (by decide +kernel)
set_option maxRecDepth 20000 in
theorem gX8_reset_X8_throwing : GoodIn wsX8_reset (wsV RX8 78 RX8 yX8_throwing wsX8_throwing) := goodIn_app (goodIn_of _ (by decide +kernel)) ggX8_reset_X8_throwing
theorem dX8_reset_0 : decode cX8_reset 0 = .ok (.aload_n 0, 1) := by decide +kernel
theorem dX8_reset_1 : decode cX8_reset 1 = .ok (.iload_n 1, 1) := by decide +kernel
theorem dX8_reset_2 : decode cX8_reset 2 = .ok (.iconst 1, 1) := by decide +kernel
theorem dX8_reset_3 : decode cX8_reset 3 = .ok (.if_icmp .lt 9, 3) := by decide +kernel
theorem dX8_reset_6 : decode cX8_reset 6 = .ok (.iload_n 1, 1) := by decide +kernel
theorem dX8_reset_7 : decode cX8_reset 7 = .ok (.bipush 16, 2) := by decide +kernel
theorem dX8_reset_9 : decode cX8_reset 9 = .ok (.if_icmp .le 7, 3) := by decide +kernel
theorem dX8_reset_12 : decode cX8_reset 12 = .ok (.iconst 1, 1) := by decide +kernel
theorem dX8_reset_13 : decode cX8_reset 13 = .ok (.goto 4, 3) := by decide +kernel
theorem dX8_reset_16 : decode cX8_reset 16 = .ok (.iconst 0, 1) := by decide +kernel
theorem dX8_reset_17 : decode cX8_reset 17 = .ok (.iconst 0, 1) := by decide +kernel
theorem dX8_reset_18 : decode cX8_reset 18 = .ok (.invokevirtual 78, 3) := by decide +kernel
theorem dX8_reset_21 : decode cX8_reset 21 = .ok (.ifCond .eq 5, 3) := by decide +kernel
theorem dX8_reset_24 : decode cX8_reset 24 = .ok (.iconst 0, 1) := by decide +kernel
theorem dX8_reset_25 : decode cX8_reset 25 = .ok (.ireturn, 1) := by decide +kernel
theorem dX8_reset_26 : decode cX8_reset 26 = .ok (.aload_n 0, 1) := by decide +kernel
theorem dX8_reset_27 : decode cX8_reset 27 = .ok (.getfield 61, 3) := by decide +kernel
theorem dX8_reset_30 : decode cX8_reset 30 = .ok (.istore_n 2, 1) := by decide +kernel
theorem dX8_reset_31 : decode cX8_reset 31 = .ok (.aload_n 0, 1) := by decide +kernel
theorem dX8_reset_32 : decode cX8_reset 32 = .ok (.iload_n 1, 1) := by decide +kernel
theorem dX8_reset_33 : decode cX8_reset 33 = .ok (.putfield 7, 3) := by decide +kernel
theorem dX8_reset_36 : decode cX8_reset 36 = .ok (.aload_n 0, 1) := by decide +kernel
theorem dX8_reset_37 : decode cX8_reset 37 = .ok (.iconst 0, 1) := by decide +kernel
theorem dX8_reset_38 : decode cX8_reset 38 = .ok (.putfield 61, 3) := by decide +kernel
theorem dX8_reset_41 : decode cX8_reset 41 = .ok (.iload_n 2, 1) := by decide +kernel
theorem dX8_reset_42 : decode cX8_reset 42 = .ok (.ireturn, 1) := by decide +kernel
set_option maxRecDepth 20000 in
theorem ggX8_edge_X8_isVertex : GoodIn wsX8_edge wsX8_isVertex := goodIn_r _ [11, 12, 38, 39, 40, 41, 42, 43, 44, 45, 46, 47, 48, 49, 50, 51, 52, 53, 54, 55, 56, 57] (by decide +kernel) (by decide +kernel)
set_option maxRecDepth 20000 in
theorem gX8_edge_X8_isVertex : GoodIn wsX8_edge (wsV RX8 82 RX8 yX8_isVertex wsX8_isVertex) := goodIn_app (goodIn_of _ (by decide +kernel)) ggX8_edge_X8_isVertex
set_option maxRecDepth 20000 in
theorem ggX8_edge_X8_dimension : GoodIn wsX8_edge wsX8_dimension := goodIn_r _ [16, 2, 12, 17, 18, 19, 10, 20, 21, 22, 23, 24, 25, 3, 26, 27, 28, 29, 30, 4, 5, 31, 32, 38, 39, 40, 41, 42, 43, 44, 45, 46, 47, 48, 49, 50, 51, 52, 53, 54, 55, 56, 57] (by decide +kernel) (by decide +kernel)
set_option maxRecDepth 20000 in
theorem gX8_edge_X8_dimension : GoodIn wsX8_edge (wsV RX8 86 RX8 yX8_dimension wsX8_dimension) := goodIn_app (goodIn_of _ (by decide +kernel)) ggX8_edge_X8_dimension
set_option maxRecDepth 20000 in
theorem ggX8_edge_X8_throwing : GoodIn wsX8_edge wsX8_throwing := goodIn_r _ [36, 37, 38, 39, 40, 41, 42, 43, 44, 45, 46, 47, 48, 49, 50, 51, 52, 53, 54, 55, 56, 57] (by decide +kernel) (by decide +kernel)
set_option maxRecDepth 20000 in
theorem gX8_edge_X8_throwing : GoodIn wsX8_edge (wsV RX8 78 RX8 yX8_throwing wsX8_throwing) := goodIn_app (goodIn_of _ (by decide +kernel)) ggX8_edge_X8_throwing
theorem dX8_edge_0 : decode cX8_edge 0 = .ok (.aload_n 0, 1) := by decide +kernel
theorem dX8_edge_1 : decode cX8_edge 1 = .ok (.iload_n 1, 1) := by decide +kernel
theorem dX8_edge_2 : decode cX8_edge 2 = .ok (.invokevirtual 82, 3) := by decide +kernel
theorem dX8_edge_5 : decode cX8_edge 5 = .ok (.ifCond .eq 21, 3) := by decide +kernel
theorem dX8_edge_8 : decode cX8_edge 8 = .ok (.aload_n 0, 1) := by decide +kernel
theorem dX8_edge_9 : decode cX8_edge 9 = .ok (.iload_n 2, 1) := by decide +kernel
theorem dX8_edge_10 : decode cX8_edge 10 = .ok (.invokevirtual 82, 3) := by decide +kernel
theorem dX8_edge_13 : decode cX8_edge 13 = .ok (.ifCond .eq 13, 3) := by decide +kernel
theorem dX8_edge_16 : decode cX8_edge 16 = .ok (.iload_n 3, 1) := by decide +kernel
theorem dX8_edge_17 : decode cX8_edge 17 = .ok (.ifCond .lt 9, 3) := by decide +kernel
theorem dX8_edge_20 : decode cX8_edge 20 = .ok (.iload_n 3, 1) := by decide +kernel
theorem dX8_edge_21 : decode cX8_edge 21 = .ok (.ldc 85, 2) := by decide +kernel
theorem dX8_edge_23 : decode cX8_edge 23 = .ok (.if_icmp .le 7, 3) := by decide +kernel
theorem dX8_edge_26 : decode cX8_edge 26 = .ok (.iconst 1, 1) := by decide +kernel
theorem dX8_edge_27 : decode cX8_edge 27 = .ok (.goto 4, 3) := by decide +kernel
theorem dX8_edge_30 : decode cX8_edge 30 = .ok (.iconst 0, 1) := by decide +kernel
theorem dX8_edge_31 : decode cX8_edge 31 = .ok (.istore 4, 2) := by decide +kernel
theorem dX8_edge_33 : decode cX8_edge 33 = .ok (.iconst 0, 1) := by decide +kernel
theorem dX8_edge_34 : decode cX8_edge 34 = .ok (.istore 5, 2) := by decide +kernel
theorem dX8_edge_36 : decode cX8_edge 36 = .ok (.iload 4, 2) := by decide +kernel
theorem dX8_edge_38 : decode cX8_edge 38 = .ok (.ifCond .ne 47, 3) := by decide +kernel
theorem dX8_edge_41 : decode cX8_edge 41 = .ok (.aload_n 0, 1) := by decide +kernel
theorem dX8_edge_42 : decode cX8_edge 42 = .ok (.invokevirtual 86, 3) := by decide +kernel
theorem dX8_edge_45 : decode cX8_edge 45 = .ok (.istore 6, 2) := by decide +kernel
theorem dX8_edge_47 : decode cX8_edge 47 = .ok (.aload_n 0, 1) := by decide +kernel
theorem dX8_edge_48 : decode cX8_edge 48 = .ok (.getfield 61, 3) := by decide +kernel
theorem dX8_edge_51 : decode cX8_edge 51 = .ok (.bipush 40, 2) := by decide +kernel
theorem dX8_edge_53 : decode cX8_edge 53 = .ok (.if_icmp .eq 25, 3) := by decide +kernel
theorem dX8_edge_56 : decode cX8_edge 56 = .ok (.iload 6, 2) := by decide +kernel
theorem dX8_edge_58 : decode cX8_edge 58 = .ok (.bipush 14, 2) := by decide +kernel
theorem dX8_edge_60 : decode cX8_edge 60 = .ok (.if_icmp .ne 22, 3) := by decide +kernel
theorem dX8_edge_63 : decode cX8_edge 63 = .ok (.aload_n 0, 1) := by decide +kernel
theorem dX8_edge_64 : decode cX8_edge 64 = .ok (.getfield 27, 3) := by decide +kernel
theorem dX8_edge_67 : decode cX8_edge 67 = .ok (.iload_n 1, 1) := by decide +kernel
theorem dX8_edge_68 : decode cX8_edge 68 = .ok (.iaload, 1) := by decide +kernel
theorem dX8_edge_69 : decode cX8_edge 69 = .ok (.aload_n 0, 1) := by decide +kernel
theorem dX8_edge_70 : decode cX8_edge 70 = .ok (.getfield 27, 3) := by decide +kernel
theorem dX8_edge_73 : decode cX8_edge 73 = .ok (.iload_n 2, 1) := by decide +kernel
theorem dX8_edge_74 : decode cX8_edge 74 = .ok (.iaload, 1) := by decide +kernel
theorem dX8_edge_75 : decode cX8_edge 75 = .ok (.if_icmp .ne 7, 3) := by decide +kernel
theorem dX8_edge_78 : decode cX8_edge 78 = .ok (.iconst 1, 1) := by decide +kernel
theorem dX8_edge_79 : decode cX8_edge 79 = .ok (.goto 4, 3) := by decide +kernel
theorem dX8_edge_82 : decode cX8_edge 82 = .ok (.iconst 0, 1) := by decide +kernel
theorem dX8_edge_83 : decode cX8_edge 83 = .ok (.istore 5, 2) := by decide +kernel
theorem dX8_edge_85 : decode cX8_edge 85 = .ok (.aload_n 0, 1) := by decide +kernel
theorem dX8_edge_86 : decode cX8_edge 86 = .ok (.iload 4, 2) := by decide +kernel
theorem dX8_edge_88 : decode cX8_edge 88 = .ok (.iload 5, 2) := by decide +kernel
theorem dX8_edge_90 : decode cX8_edge 90 = .ok (.invokevirtual 78, 3) := by decide +kernel
theorem dX8_edge_93 : decode cX8_edge 93 = .ok (.ifCond .eq 5, 3) := by decide +kernel
theorem dX8_edge_96 : decode cX8_edge 96 = .ok (.iconst 0, 1) := by decide +kernel
theorem dX8_edge_97 : decode cX8_edge 97 = .ok (.ireturn, 1) := by decide +kernel
theorem dX8_edge_98 : decode cX8_edge 98 = .ok (.aload_n 0, 1) := by decide +kernel
theorem dX8_edge_99 : decode cX8_edge 99 = .ok (.getfield 13, 3) := by decide +kernel
theorem dX8_edge_102 : decode cX8_edge 102 = .ok (.aload_n 0, 1) := by decide +kernel
theorem dX8_edge_103 : decode cX8_edge 103 = .ok (.getfield 61, 3) := by decide +kernel
theorem dX8_edge_106 : decode cX8_edge 106 = .ok (.iload_n 1, 1) := by decide +kernel
theorem dX8_edge_107 : decode cX8_edge 107 = .ok (.iastore, 1) := by decide +kernel
theorem dX8_edge_108 : decode cX8_edge 108 = .ok (.aload_n 0, 1) := by decide +kernel
theorem dX8_edge_109 : decode cX8_edge 109 = .ok (.getfield 17, 3) := by decide +kernel
theorem dX8_edge_112 : decode cX8_edge 112 = .ok (.aload_n 0, 1) := by decide +kernel
theorem dX8_edge_113 : decode cX8_edge 113 = .ok (.getfield 61, 3) := by decide +kernel
theorem dX8_edge_116 : decode cX8_edge 116 = .ok (.iload_n 2, 1) := by decide +kernel
theorem dX8_edge_117 : decode cX8_edge 117 = .ok (.iastore, 1) := by decide +kernel
theorem dX8_edge_118 : decode cX8_edge 118 = .ok (.aload_n 0, 1) := by decide +kernel
theorem dX8_edge_119 : decode cX8_edge 119 = .ok (.getfield 20, 3) := by decide +kernel
theorem dX8_edge_122 : decode cX8_edge 122 = .ok (.aload_n 0, 1) := by decide +kernel
theorem dX8_edge_123 : decode cX8_edge 123 = .ok (.getfield 61, 3) := by decide +kernel
theorem dX8_edge_126 : decode cX8_edge 126 = .ok (.iload_n 3, 1) := by decide +kernel
theorem dX8_edge_127 : decode cX8_edge 127 = .ok (.iastore, 1) := by decide +kernel
theorem dX8_edge_128 : decode cX8_edge 128 = .ok (.aload_n 0, 1) := by decide +kernel
theorem dX8_edge_129 : decode cX8_edge 129 = .ok (.dup, 1) := by decide +kernel
theorem dX8_edge_130 : decode cX8_edge 130 = .ok (.getfield 61, 3) := by decide +kernel
theorem dX8_edge_133 : decode cX8_edge 133 = .ok (.iconst 1, 1) := by decide +kernel
theorem dX8_edge_134 : decode cX8_edge 134 = .ok (.iadd, 1) := by decide +kernel
theorem dX8_edge_135 : decode cX8_edge 135 = .ok (.putfield 61, 3) := by decide +kernel
theorem dX8_edge_138 : decode cX8_edge 138 = .ok (.aload_n 0, 1) := by decide +kernel
theorem dX8_edge_139 : decode cX8_edge 139 = .ok (.getfield 61, 3) := by decide +kernel
theorem dX8_edge_142 : decode cX8_edge 142 = .ok (.iconst 1, 1) := by decide +kernel
theorem dX8_edge_143 : decode cX8_edge 143 = .ok (.isub, 1) := by decide +kernel
theorem dX8_edge_144 : decode cX8_edge 144 = .ok (.ireturn, 1) := by decide +kernel
set_option maxRecDepth 20000 in
theorem ggX8_drop_X8_throwing : GoodIn wsX8_drop wsX8_throwing := goodIn_r _ [6, 7, 8, 9, 10, 11, 12, 13, 14, 15, 16, 17, 18, 19, 20, 21, 22, 23, 24, 25, 26, 27] (by decide +kernel) (by decide +kernel)
set_option maxRecDepth 20000 in
theorem gX8_drop_X8_throwing : GoodIn wsX8_drop (wsV RX8 78 RX8 yX8_throwing wsX8_throwing) := goodIn_app (goodIn_of _ (by decide +kernel)) ggX8_drop_X8_throwing
theorem dX8_drop_0 : decode cX8_drop 0 = .ok (.aload_n 0, 1) := by decide +kernel
theorem dX8_drop_1 : decode cX8_drop 1 = .ok (.aload_n 0, 1) := by decide +kernel
theorem dX8_drop_2 : decode cX8_drop 2 = .ok (.getfield 61, 3) := by decide +kernel
theorem dX8_drop_5 : decode cX8_drop 5 = .ok (.ifCond .ne 7, 3) := by decide +kernel
theorem dX8_drop_8 : decode cX8_drop 8 = .ok (.iconst 1, 1) := by decide +kernel
theorem dX8_drop_9 : decode cX8_drop 9 = .ok (.goto 4, 3) := by decide +kernel
theorem dX8_drop_12 : decode cX8_drop 12 = .ok (.iconst 0, 1) := by decide +kernel
theorem dX8_drop_13 : decode cX8_drop 13 = .ok (.iconst 0, 1) := by decide +kernel
theorem dX8_drop_14 : decode cX8_drop 14 = .ok (.invokevirtual 78, 3) := by decide +kernel
theorem dX8_drop_17 : decode cX8_drop 17 = .ok (.ifCond .eq 5, 3) := by decide +kernel
theorem dX8_drop_20 : decode cX8_drop 20 = .ok (.iconst 0, 1) := by decide +kernel
theorem dX8_drop_21 : decode cX8_drop 21 = .ok (.ireturn, 1) := by decide +kernel
theorem dX8_drop_22 : decode cX8_drop 22 = .ok (.aload_n 0, 1) := by decide +kernel
theorem dX8_drop_23 : decode cX8_drop 23 = .ok (.dup, 1) := by decide +kernel
theorem dX8_drop_24 : decode cX8_drop 24 = .ok (.getfield 61, 3) := by decide +kernel
theorem dX8_drop_27 : decode cX8_drop 27 = .ok (.iconst 1, 1) := by decide +kernel
theorem dX8_drop_28 : decode cX8_drop 28 = .ok (.isub, 1) := by decide +kernel
theorem dX8_drop_29 : decode cX8_drop 29 = .ok (.putfield 61, 3) := by decide +kernel
theorem dX8_drop_32 : decode cX8_drop 32 = .ok (.aload_n 0, 1) := by decide +kernel
theorem dX8_drop_33 : decode cX8_drop 33 = .ok (.getfield 61, 3) := by decide +kernel
theorem dX8_drop_36 : decode cX8_drop 36 = .ok (.ireturn, 1) := by decide +kernel
theorem dX8_weightOf_0 : decode cX8_weightOf 0 = .ok (.lconst 0, 1) := by decide +kernel
theorem dX8_weightOf_1 : decode cX8_weightOf 1 = .ok (.lstore_n 3, 1) := by decide +kernel
theorem dX8_weightOf_2 : decode cX8_weightOf 2 = .ok (.iconst 0, 1) := by decide +kernel
theorem dX8_weightOf_3 : decode cX8_weightOf 3 = .ok (.istore 5, 2) := by decide +kernel
theorem dX8_weightOf_5 : decode cX8_weightOf 5 = .ok (.iload 5, 2) := by decide +kernel
theorem dX8_weightOf_7 : decode cX8_weightOf 7 = .ok (.aload_n 0, 1) := by decide +kernel
theorem dX8_weightOf_8 : decode cX8_weightOf 8 = .ok (.getfield 61, 3) := by decide +kernel
theorem dX8_weightOf_11 : decode cX8_weightOf 11 = .ok (.if_icmp .ge 31, 3) := by decide +kernel
theorem dX8_weightOf_14 : decode cX8_weightOf 14 = .ok (.lload_n 1, 1) := by decide +kernel
theorem dX8_weightOf_15 : decode cX8_weightOf 15 = .ok (.iload 5, 2) := by decide +kernel
theorem dX8_weightOf_17 : decode cX8_weightOf 17 = .ok (.lshr, 1) := by decide +kernel
theorem dX8_weightOf_18 : decode cX8_weightOf 18 = .ok (.lconst 1, 1) := by decide +kernel
theorem dX8_weightOf_19 : decode cX8_weightOf 19 = .ok (.land, 1) := by decide +kernel
theorem dX8_weightOf_20 : decode cX8_weightOf 20 = .ok (.lconst 1, 1) := by decide +kernel
theorem dX8_weightOf_21 : decode cX8_weightOf 21 = .ok (.lcmp, 1) := by decide +kernel
theorem dX8_weightOf_22 : decode cX8_weightOf 22 = .ok (.ifCond .ne 14, 3) := by decide +kernel
theorem dX8_weightOf_25 : decode cX8_weightOf 25 = .ok (.lload_n 3, 1) := by decide +kernel
theorem dX8_weightOf_26 : decode cX8_weightOf 26 = .ok (.aload_n 0, 1) := by decide +kernel
theorem dX8_weightOf_27 : decode cX8_weightOf 27 = .ok (.getfield 20, 3) := by decide +kernel
theorem dX8_weightOf_30 : decode cX8_weightOf 30 = .ok (.iload 5, 2) := by decide +kernel
theorem dX8_weightOf_32 : decode cX8_weightOf 32 = .ok (.iaload, 1) := by decide +kernel
theorem dX8_weightOf_33 : decode cX8_weightOf 33 = .ok (.i2l, 1) := by decide +kernel
theorem dX8_weightOf_34 : decode cX8_weightOf 34 = .ok (.ladd, 1) := by decide +kernel
theorem dX8_weightOf_35 : decode cX8_weightOf 35 = .ok (.lstore_n 3, 1) := by decide +kernel
theorem dX8_weightOf_36 : decode cX8_weightOf 36 = .ok (.iinc 5 1, 3) := by decide +kernel
theorem dX8_weightOf_39 : decode cX8_weightOf 39 = .ok (.goto (-34), 3) := by decide +kernel
theorem dX8_weightOf_42 : decode cX8_weightOf 42 = .ok (.lload_n 3, 1) := by decide +kernel
theorem dX8_weightOf_43 : decode cX8_weightOf 43 = .ok (.lreturn, 1) := by decide +kernel
set_option maxRecDepth 20000 in
theorem ggX8_beginsWith_X8_beginGroups : GoodIn wsX8_beginsWith wsX8_beginGroups := goodIn_r _ [6, 7, 8, 9, 19, 20, 21, 22, 23, 24, 25, 26, 27, 28, 29, 30, 31, 32, 33, 34, 35, 36, 37, 38] (by decide +kernel) (by decide +kernel)
set_option maxRecDepth 20000 in
theorem gX8_beginsWith_X8_beginGroups : GoodIn wsX8_beginsWith (wsV RX8 67 RX8 yX8_beginGroups wsX8_beginGroups) := goodIn_app (goodIn_of _ (by decide +kernel)) ggX8_beginsWith_X8_beginGroups
set_option maxRecDepth 20000 in
theorem ggX8_beginsWith_X8_joins : GoodIn wsX8_beginsWith wsX8_joins := goodIn_r _ [13, 14, 15, 8, 16, 7, 9, 17, 18, 19, 20, 21, 22, 23, 24, 25, 26, 27, 28, 29, 30, 31, 32, 33, 34, 35, 36, 37, 38] (by decide +kernel) (by decide +kernel)
set_option maxRecDepth 20000 in
theorem gX8_beginsWith_X8_joins : GoodIn wsX8_beginsWith (wsV RX8 70 RX8 yX8_joins wsX8_joins) := goodIn_app (goodIn_of _ (by decide +kernel)) ggX8_beginsWith_X8_joins
theorem dX8_beginsWith_0 : decode cX8_beginsWith 0 = .ok (.aload_n 0, 1) := by decide +kernel
theorem dX8_beginsWith_1 : decode cX8_beginsWith 1 = .ok (.invokevirtual 67, 3) := by decide +kernel
theorem dX8_beginsWith_4 : decode cX8_beginsWith 4 = .ok (.iconst 1, 1) := by decide +kernel
theorem dX8_beginsWith_5 : decode cX8_beginsWith 5 = .ok (.istore_n 3, 1) := by decide +kernel
theorem dX8_beginsWith_6 : decode cX8_beginsWith 6 = .ok (.iconst 0, 1) := by decide +kernel
theorem dX8_beginsWith_7 : decode cX8_beginsWith 7 = .ok (.istore 4, 2) := by decide +kernel
theorem dX8_beginsWith_9 : decode cX8_beginsWith 9 = .ok (.iload 4, 2) := by decide +kernel
theorem dX8_beginsWith_11 : decode cX8_beginsWith 11 = .ok (.aload_n 0, 1) := by decide +kernel
theorem dX8_beginsWith_12 : decode cX8_beginsWith 12 = .ok (.getfield 61, 3) := by decide +kernel
theorem dX8_beginsWith_15 : decode cX8_beginsWith 15 = .ok (.if_icmp .ge 39, 3) := by decide +kernel
theorem dX8_beginsWith_18 : decode cX8_beginsWith 18 = .ok (.lload_n 1, 1) := by decide +kernel
theorem dX8_beginsWith_19 : decode cX8_beginsWith 19 = .ok (.iload 4, 2) := by decide +kernel
theorem dX8_beginsWith_21 : decode cX8_beginsWith 21 = .ok (.lshr, 1) := by decide +kernel
theorem dX8_beginsWith_22 : decode cX8_beginsWith 22 = .ok (.lconst 1, 1) := by decide +kernel
theorem dX8_beginsWith_23 : decode cX8_beginsWith 23 = .ok (.land, 1) := by decide +kernel
theorem dX8_beginsWith_24 : decode cX8_beginsWith 24 = .ok (.lconst 1, 1) := by decide +kernel
theorem dX8_beginsWith_25 : decode cX8_beginsWith 25 = .ok (.lcmp, 1) := by decide +kernel
theorem dX8_beginsWith_26 : decode cX8_beginsWith 26 = .ok (.ifCond .ne 22, 3) := by decide +kernel
theorem dX8_beginsWith_29 : decode cX8_beginsWith 29 = .ok (.aload_n 0, 1) := by decide +kernel
theorem dX8_beginsWith_30 : decode cX8_beginsWith 30 = .ok (.iload 4, 2) := by decide +kernel
theorem dX8_beginsWith_32 : decode cX8_beginsWith 32 = .ok (.invokevirtual 70, 3) := by decide +kernel
theorem dX8_beginsWith_35 : decode cX8_beginsWith 35 = .ok (.ifCond .eq 11, 3) := by decide +kernel
theorem dX8_beginsWith_38 : decode cX8_beginsWith 38 = .ok (.iload_n 3, 1) := by decide +kernel
theorem dX8_beginsWith_39 : decode cX8_beginsWith 39 = .ok (.ifCond .eq 7, 3) := by decide +kernel
theorem dX8_beginsWith_42 : decode cX8_beginsWith 42 = .ok (.iconst 1, 1) := by decide +kernel
theorem dX8_beginsWith_43 : decode cX8_beginsWith 43 = .ok (.goto 4, 3) := by decide +kernel
theorem dX8_beginsWith_46 : decode cX8_beginsWith 46 = .ok (.iconst 0, 1) := by decide +kernel
theorem dX8_beginsWith_47 : decode cX8_beginsWith 47 = .ok (.istore_n 3, 1) := by decide +kernel
theorem dX8_beginsWith_48 : decode cX8_beginsWith 48 = .ok (.iinc 4 1, 3) := by decide +kernel
theorem dX8_beginsWith_51 : decode cX8_beginsWith 51 = .ok (.goto (-42), 3) := by decide +kernel
theorem dX8_beginsWith_54 : decode cX8_beginsWith 54 = .ok (.iload_n 3, 1) := by decide +kernel
theorem dX8_beginsWith_55 : decode cX8_beginsWith 55 = .ok (.ireturn, 1) := by decide +kernel
set_option maxRecDepth 20000 in
theorem ggX8_forests_X8_isSet : GoodIn wsX8_forests wsX8_isSet := goodIn_r _ [12, 5, 51, 52, 53, 54, 55, 56, 57, 58, 59, 60, 61, 62, 63, 64, 65, 66, 67, 68, 69, 70] (by decide +kernel) (by decide +kernel)
set_option maxRecDepth 20000 in
theorem gX8_forests_X8_isSet : GoodIn wsX8_forests (wsV RX8 89 RX8 yX8_isSet wsX8_isSet) := goodIn_app (goodIn_of _ (by decide +kernel)) ggX8_forests_X8_isSet
set_option maxRecDepth 20000 in
theorem ggX8_forests_X8_throwing : GoodIn wsX8_forests wsX8_throwing := goodIn_r _ [16, 17, 51, 52, 53, 54, 55, 56, 57, 58, 59, 60, 61, 62, 63, 64, 65, 66, 67, 68, 69, 70] (by decide +kernel) (by decide +kernel)
set_option maxRecDepth 20000 in
theorem gX8_forests_X8_throwing : GoodIn wsX8_forests (wsV RX8 78 RX8 yX8_throwing wsX8_throwing) := goodIn_app (goodIn_of _ (by decide +kernel)) ggX8_forests_X8_throwing
set_option maxRecDepth 20000 in
theorem ggX8_forests_X8_beginsWith : GoodIn wsX8_forests wsX8_beginsWith := goodIn_r _ [21, 5, 22, 23, 24, 11, 25, 26, 3, 27, 28, 29, 30, 31, 6, 7, 32, 33, 1, 51, 52, 53, 54, 55, 56, 57, 58, 59, 60, 61, 62, 63, 64, 65, 66, 67, 68, 69, 70] (by decide +kernel) (by decide +kernel)
set_option maxRecDepth 20000 in
theorem gX8_forests_X8_beginsWith : GoodIn wsX8_forests (wsV RX8 93 RX8 yX8_beginsWith wsX8_beginsWith) := goodIn_app (goodIn_of _ (by decide +kernel)) ggX8_forests_X8_beginsWith
set_option maxRecDepth 20000 in
theorem ggX8_forests_X8_isFirst : GoodIn wsX8_forests wsX8_isFirst := goodIn_r _ [37, 3, 38, 39, 40, 11, 41, 1, 42, 5, 6, 7, 51, 52, 53, 54, 55, 56, 57, 58, 59, 60, 61, 62, 63, 64, 65, 66, 67, 68, 69, 70] (by decide +kernel) (by decide +kernel)
set_option maxRecDepth 20000 in
theorem gX8_forests_X8_isFirst : GoodIn wsX8_forests (wsV RX8 96 RX8 yX8_isFirst wsX8_isFirst) := goodIn_app (goodIn_of _ (by decide +kernel)) ggX8_forests_X8_isFirst
set_option maxRecDepth 20000 in
theorem ggX8_forests_X8_lay : GoodIn wsX8_forests wsX8_lay := goodIn_r _ [46, 4, 51, 52, 53, 54, 55, 56, 57, 58, 59, 60, 61, 62, 63, 64, 65, 66, 67, 68, 69, 70] (by decide +kernel) (by decide +kernel)
set_option maxRecDepth 20000 in
theorem gX8_forests_X8_lay : GoodIn wsX8_forests (wsV RX8 99 RX8 yX8_lay wsX8_lay) := goodIn_app (goodIn_of _ (by decide +kernel)) ggX8_forests_X8_lay
set_option maxRecDepth 20000 in
theorem ggX8_forests_X8_determinant : GoodIn wsX8_forests wsX8_determinant := goodIn_r _ [50, 4, 51, 52, 53, 54, 55, 56, 57, 58, 59, 60, 61, 62, 63, 64, 65, 66, 67, 68, 69, 70] (by decide +kernel) (by decide +kernel)
set_option maxRecDepth 20000 in
theorem gX8_forests_X8_determinant : GoodIn wsX8_forests (wsV RX8 103 RX8 yX8_determinant wsX8_determinant) := goodIn_app (goodIn_of _ (by decide +kernel)) ggX8_forests_X8_determinant
theorem dX8_forests_0 : decode cX8_forests 0 = .ok (.aload_n 0, 1) := by decide +kernel
theorem dX8_forests_1 : decode cX8_forests 1 = .ok (.aload_n 0, 1) := by decide +kernel
theorem dX8_forests_2 : decode cX8_forests 2 = .ok (.lload_n 1, 1) := by decide +kernel
theorem dX8_forests_3 : decode cX8_forests 3 = .ok (.invokevirtual 89, 3) := by decide +kernel
theorem dX8_forests_6 : decode cX8_forests 6 = .ok (.ifCond .ne 7, 3) := by decide +kernel
theorem dX8_forests_9 : decode cX8_forests 9 = .ok (.iconst 1, 1) := by decide +kernel
theorem dX8_forests_10 : decode cX8_forests 10 = .ok (.goto 4, 3) := by decide +kernel
theorem dX8_forests_13 : decode cX8_forests 13 = .ok (.iconst 0, 1) := by decide +kernel
theorem dX8_forests_14 : decode cX8_forests 14 = .ok (.iconst 0, 1) := by decide +kernel
theorem dX8_forests_15 : decode cX8_forests 15 = .ok (.invokevirtual 78, 3) := by decide +kernel
theorem dX8_forests_18 : decode cX8_forests 18 = .ok (.ifCond .eq 5, 3) := by decide +kernel
theorem dX8_forests_21 : decode cX8_forests 21 = .ok (.lconst 0, 1) := by decide +kernel
theorem dX8_forests_22 : decode cX8_forests 22 = .ok (.lreturn, 1) := by decide +kernel
theorem dX8_forests_23 : decode cX8_forests 23 = .ok (.aload_n 0, 1) := by decide +kernel
theorem dX8_forests_24 : decode cX8_forests 24 = .ok (.lload_n 1, 1) := by decide +kernel
theorem dX8_forests_25 : decode cX8_forests 25 = .ok (.invokevirtual 93, 3) := by decide +kernel
theorem dX8_forests_28 : decode cX8_forests 28 = .ok (.ifCond .ne 5, 3) := by decide +kernel
theorem dX8_forests_31 : decode cX8_forests 31 = .ok (.lconst 0, 1) := by decide +kernel
theorem dX8_forests_32 : decode cX8_forests 32 = .ok (.lreturn, 1) := by decide +kernel
theorem dX8_forests_33 : decode cX8_forests 33 = .ok (.iconst 0, 1) := by decide +kernel
theorem dX8_forests_34 : decode cX8_forests 34 = .ok (.istore_n 3, 1) := by decide +kernel
theorem dX8_forests_35 : decode cX8_forests 35 = .ok (.iconst 0, 1) := by decide +kernel
theorem dX8_forests_36 : decode cX8_forests 36 = .ok (.istore 4, 2) := by decide +kernel
theorem dX8_forests_38 : decode cX8_forests 38 = .ok (.iload 4, 2) := by decide +kernel
theorem dX8_forests_40 : decode cX8_forests 40 = .ok (.aload_n 0, 1) := by decide +kernel
theorem dX8_forests_41 : decode cX8_forests 41 = .ok (.getfield 7, 3) := by decide +kernel
theorem dX8_forests_44 : decode cX8_forests 44 = .ok (.if_icmp .ge 70, 3) := by decide +kernel
theorem dX8_forests_47 : decode cX8_forests 47 = .ok (.aload_n 0, 1) := by decide +kernel
theorem dX8_forests_48 : decode cX8_forests 48 = .ok (.getfield 51, 3) := by decide +kernel
theorem dX8_forests_51 : decode cX8_forests 51 = .ok (.iload 4, 2) := by decide +kernel
theorem dX8_forests_53 : decode cX8_forests 53 = .ok (.iconst (-1), 1) := by decide +kernel
theorem dX8_forests_54 : decode cX8_forests 54 = .ok (.iastore, 1) := by decide +kernel
theorem dX8_forests_55 : decode cX8_forests 55 = .ok (.aload_n 0, 1) := by decide +kernel
theorem dX8_forests_56 : decode cX8_forests 56 = .ok (.getfield 27, 3) := by decide +kernel
theorem dX8_forests_59 : decode cX8_forests 59 = .ok (.iload 4, 2) := by decide +kernel
theorem dX8_forests_61 : decode cX8_forests 61 = .ok (.iaload, 1) := by decide +kernel
theorem dX8_forests_62 : decode cX8_forests 62 = .ok (.iload 4, 2) := by decide +kernel
theorem dX8_forests_64 : decode cX8_forests 64 = .ok (.if_icmp .eq 6, 3) := by decide +kernel
theorem dX8_forests_67 : decode cX8_forests 67 = .ok (.goto 41, 3) := by decide +kernel
theorem dX8_forests_70 : decode cX8_forests 70 = .ok (.aload_n 0, 1) := by decide +kernel
theorem dX8_forests_71 : decode cX8_forests 71 = .ok (.getfield 51, 3) := by decide +kernel
theorem dX8_forests_74 : decode cX8_forests 74 = .ok (.iload 4, 2) := by decide +kernel
theorem dX8_forests_76 : decode cX8_forests 76 = .ok (.aload_n 0, 1) := by decide +kernel
theorem dX8_forests_77 : decode cX8_forests 77 = .ok (.iload 4, 2) := by decide +kernel
theorem dX8_forests_79 : decode cX8_forests 79 = .ok (.invokevirtual 96, 3) := by decide +kernel
theorem dX8_forests_82 : decode cX8_forests 82 = .ok (.ifCond .eq 7, 3) := by decide +kernel
theorem dX8_forests_85 : decode cX8_forests 85 = .ok (.iconst (-1), 1) := by decide +kernel
theorem dX8_forests_86 : decode cX8_forests 86 = .ok (.goto 4, 3) := by decide +kernel
theorem dX8_forests_89 : decode cX8_forests 89 = .ok (.iload_n 3, 1) := by decide +kernel
theorem dX8_forests_90 : decode cX8_forests 90 = .ok (.iastore, 1) := by decide +kernel
theorem dX8_forests_91 : decode cX8_forests 91 = .ok (.iload_n 3, 1) := by decide +kernel
theorem dX8_forests_92 : decode cX8_forests 92 = .ok (.aload_n 0, 1) := by decide +kernel
theorem dX8_forests_93 : decode cX8_forests 93 = .ok (.iload 4, 2) := by decide +kernel
theorem dX8_forests_95 : decode cX8_forests 95 = .ok (.invokevirtual 96, 3) := by decide +kernel
theorem dX8_forests_98 : decode cX8_forests 98 = .ok (.ifCond .eq 7, 3) := by decide +kernel
theorem dX8_forests_101 : decode cX8_forests 101 = .ok (.iconst 0, 1) := by decide +kernel
theorem dX8_forests_102 : decode cX8_forests 102 = .ok (.goto 4, 3) := by decide +kernel
theorem dX8_forests_105 : decode cX8_forests 105 = .ok (.iconst 1, 1) := by decide +kernel
theorem dX8_forests_106 : decode cX8_forests 106 = .ok (.iadd, 1) := by decide +kernel
theorem dX8_forests_107 : decode cX8_forests 107 = .ok (.istore_n 3, 1) := by decide +kernel
theorem dX8_forests_108 : decode cX8_forests 108 = .ok (.iinc 4 1, 3) := by decide +kernel
theorem dX8_forests_111 : decode cX8_forests 111 = .ok (.goto (-73), 3) := by decide +kernel
theorem dX8_forests_114 : decode cX8_forests 114 = .ok (.iconst 0, 1) := by decide +kernel
theorem dX8_forests_115 : decode cX8_forests 115 = .ok (.istore 4, 2) := by decide +kernel
theorem dX8_forests_117 : decode cX8_forests 117 = .ok (.iload 4, 2) := by decide +kernel
theorem dX8_forests_119 : decode cX8_forests 119 = .ok (.sipush 256, 3) := by decide +kernel
theorem dX8_forests_122 : decode cX8_forests 122 = .ok (.if_icmp .ge 17, 3) := by decide +kernel
theorem dX8_forests_125 : decode cX8_forests 125 = .ok (.aload_n 0, 1) := by decide +kernel
theorem dX8_forests_126 : decode cX8_forests 126 = .ok (.getfield 48, 3) := by decide +kernel
theorem dX8_forests_129 : decode cX8_forests 129 = .ok (.iload 4, 2) := by decide +kernel
theorem dX8_forests_131 : decode cX8_forests 131 = .ok (.lconst 0, 1) := by decide +kernel
theorem dX8_forests_132 : decode cX8_forests 132 = .ok (.lastore, 1) := by decide +kernel
theorem dX8_forests_133 : decode cX8_forests 133 = .ok (.iinc 4 1, 3) := by decide +kernel
theorem dX8_forests_136 : decode cX8_forests 136 = .ok (.goto (-19), 3) := by decide +kernel
theorem dX8_forests_139 : decode cX8_forests 139 = .ok (.iconst 0, 1) := by decide +kernel
theorem dX8_forests_140 : decode cX8_forests 140 = .ok (.istore 4, 2) := by decide +kernel
theorem dX8_forests_142 : decode cX8_forests 142 = .ok (.iload 4, 2) := by decide +kernel
theorem dX8_forests_144 : decode cX8_forests 144 = .ok (.aload_n 0, 1) := by decide +kernel
theorem dX8_forests_145 : decode cX8_forests 145 = .ok (.getfield 61, 3) := by decide +kernel
theorem dX8_forests_148 : decode cX8_forests 148 = .ok (.if_icmp .ge 65, 3) := by decide +kernel
theorem dX8_forests_151 : decode cX8_forests 151 = .ok (.aload_n 0, 1) := by decide +kernel
theorem dX8_forests_152 : decode cX8_forests 152 = .ok (.getfield 27, 3) := by decide +kernel
theorem dX8_forests_155 : decode cX8_forests 155 = .ok (.aload_n 0, 1) := by decide +kernel
theorem dX8_forests_156 : decode cX8_forests 156 = .ok (.getfield 13, 3) := by decide +kernel
theorem dX8_forests_159 : decode cX8_forests 159 = .ok (.iload 4, 2) := by decide +kernel
theorem dX8_forests_161 : decode cX8_forests 161 = .ok (.iaload, 1) := by decide +kernel
theorem dX8_forests_162 : decode cX8_forests 162 = .ok (.iaload, 1) := by decide +kernel
theorem dX8_forests_163 : decode cX8_forests 163 = .ok (.istore 5, 2) := by decide +kernel
theorem dX8_forests_165 : decode cX8_forests 165 = .ok (.aload_n 0, 1) := by decide +kernel
theorem dX8_forests_166 : decode cX8_forests 166 = .ok (.getfield 27, 3) := by decide +kernel
theorem dX8_forests_169 : decode cX8_forests 169 = .ok (.aload_n 0, 1) := by decide +kernel
theorem dX8_forests_170 : decode cX8_forests 170 = .ok (.getfield 17, 3) := by decide +kernel
theorem dX8_forests_173 : decode cX8_forests 173 = .ok (.iload 4, 2) := by decide +kernel
theorem dX8_forests_175 : decode cX8_forests 175 = .ok (.iaload, 1) := by decide +kernel
theorem dX8_forests_176 : decode cX8_forests 176 = .ok (.iaload, 1) := by decide +kernel
theorem dX8_forests_177 : decode cX8_forests 177 = .ok (.istore 6, 2) := by decide +kernel
theorem dX8_forests_179 : decode cX8_forests 179 = .ok (.iload 5, 2) := by decide +kernel
theorem dX8_forests_181 : decode cX8_forests 181 = .ok (.iload 6, 2) := by decide +kernel
theorem dX8_forests_183 : decode cX8_forests 183 = .ok (.if_icmp .ne 6, 3) := by decide +kernel
theorem dX8_forests_186 : decode cX8_forests 186 = .ok (.goto 21, 3) := by decide +kernel
theorem dX8_forests_189 : decode cX8_forests 189 = .ok (.aload_n 0, 1) := by decide +kernel
theorem dX8_forests_190 : decode cX8_forests 190 = .ok (.aload_n 0, 1) := by decide +kernel
theorem dX8_forests_191 : decode cX8_forests 191 = .ok (.getfield 51, 3) := by decide +kernel
theorem dX8_forests_194 : decode cX8_forests 194 = .ok (.iload 5, 2) := by decide +kernel
theorem dX8_forests_196 : decode cX8_forests 196 = .ok (.iaload, 1) := by decide +kernel
theorem dX8_forests_197 : decode cX8_forests 197 = .ok (.aload_n 0, 1) := by decide +kernel
theorem dX8_forests_198 : decode cX8_forests 198 = .ok (.getfield 51, 3) := by decide +kernel
theorem dX8_forests_201 : decode cX8_forests 201 = .ok (.iload 6, 2) := by decide +kernel
theorem dX8_forests_203 : decode cX8_forests 203 = .ok (.iaload, 1) := by decide +kernel
theorem dX8_forests_204 : decode cX8_forests 204 = .ok (.invokevirtual 99, 3) := by decide +kernel
theorem dX8_forests_207 : decode cX8_forests 207 = .ok (.iinc 4 1, 3) := by decide +kernel
theorem dX8_forests_210 : decode cX8_forests 210 = .ok (.goto (-68), 3) := by decide +kernel
theorem dX8_forests_213 : decode cX8_forests 213 = .ok (.aload_n 0, 1) := by decide +kernel
theorem dX8_forests_214 : decode cX8_forests 214 = .ok (.iload_n 3, 1) := by decide +kernel
theorem dX8_forests_215 : decode cX8_forests 215 = .ok (.invokevirtual 103, 3) := by decide +kernel
theorem dX8_forests_218 : decode cX8_forests 218 = .ok (.lreturn, 1) := by decide +kernel
set_option maxRecDepth 20000 in
theorem ggX8_isFirst_X8_hang : GoodIn wsX8_isFirst wsX8_hang := goodIn_r _ [6, 7, 8, 9, 10, 11, 12, 13, 14, 15, 16, 17, 18, 19, 20, 21, 22, 23, 24, 25, 26, 27, 28, 29, 30, 31] (by decide +kernel) (by decide +kernel)
set_option maxRecDepth 20000 in
theorem gX8_isFirst_X8_hang : GoodIn wsX8_isFirst (wsV RX8 107 RX8 yX8_hang wsX8_hang) := goodIn_app (goodIn_of _ (by decide +kernel)) ggX8_isFirst_X8_hang
theorem dX8_isFirst_0 : decode cX8_isFirst 0 = .ok (.iconst 1, 1) := by decide +kernel
theorem dX8_isFirst_1 : decode cX8_isFirst 1 = .ok (.istore_n 2, 1) := by decide +kernel
theorem dX8_isFirst_2 : decode cX8_isFirst 2 = .ok (.iconst 0, 1) := by decide +kernel
theorem dX8_isFirst_3 : decode cX8_isFirst 3 = .ok (.istore_n 3, 1) := by decide +kernel
theorem dX8_isFirst_4 : decode cX8_isFirst 4 = .ok (.iload_n 3, 1) := by decide +kernel
theorem dX8_isFirst_5 : decode cX8_isFirst 5 = .ok (.iload_n 1, 1) := by decide +kernel
theorem dX8_isFirst_6 : decode cX8_isFirst 6 = .ok (.if_icmp .ge 38, 3) := by decide +kernel
theorem dX8_isFirst_9 : decode cX8_isFirst 9 = .ok (.iload_n 2, 1) := by decide +kernel
theorem dX8_isFirst_10 : decode cX8_isFirst 10 = .ok (.ifCond .eq 26, 3) := by decide +kernel
theorem dX8_isFirst_13 : decode cX8_isFirst 13 = .ok (.aload_n 0, 1) := by decide +kernel
theorem dX8_isFirst_14 : decode cX8_isFirst 14 = .ok (.getfield 27, 3) := by decide +kernel
theorem dX8_isFirst_17 : decode cX8_isFirst 17 = .ok (.iload_n 3, 1) := by decide +kernel
theorem dX8_isFirst_18 : decode cX8_isFirst 18 = .ok (.iaload, 1) := by decide +kernel
theorem dX8_isFirst_19 : decode cX8_isFirst 19 = .ok (.iload_n 3, 1) := by decide +kernel
theorem dX8_isFirst_20 : decode cX8_isFirst 20 = .ok (.if_icmp .ne 12, 3) := by decide +kernel
theorem dX8_isFirst_23 : decode cX8_isFirst 23 = .ok (.aload_n 0, 1) := by decide +kernel
theorem dX8_isFirst_24 : decode cX8_isFirst 24 = .ok (.iload_n 3, 1) := by decide +kernel
theorem dX8_isFirst_25 : decode cX8_isFirst 25 = .ok (.iload_n 1, 1) := by decide +kernel
theorem dX8_isFirst_26 : decode cX8_isFirst 26 = .ok (.invokevirtual 107, 3) := by decide +kernel
theorem dX8_isFirst_29 : decode cX8_isFirst 29 = .ok (.ifCond .ne 7, 3) := by decide +kernel
theorem dX8_isFirst_32 : decode cX8_isFirst 32 = .ok (.iconst 1, 1) := by decide +kernel
theorem dX8_isFirst_33 : decode cX8_isFirst 33 = .ok (.goto 4, 3) := by decide +kernel
theorem dX8_isFirst_36 : decode cX8_isFirst 36 = .ok (.iconst 0, 1) := by decide +kernel
theorem dX8_isFirst_37 : decode cX8_isFirst 37 = .ok (.istore_n 2, 1) := by decide +kernel
theorem dX8_isFirst_38 : decode cX8_isFirst 38 = .ok (.iinc 3 1, 3) := by decide +kernel
theorem dX8_isFirst_41 : decode cX8_isFirst 41 = .ok (.goto (-37), 3) := by decide +kernel
theorem dX8_isFirst_44 : decode cX8_isFirst 44 = .ok (.iload_n 2, 1) := by decide +kernel
theorem dX8_isFirst_45 : decode cX8_isFirst 45 = .ok (.ireturn, 1) := by decide +kernel
theorem dX8_hang_0 : decode cX8_hang 0 = .ok (.iconst 0, 1) := by decide +kernel
theorem dX8_hang_1 : decode cX8_hang 1 = .ok (.istore_n 3, 1) := by decide +kernel
theorem dX8_hang_2 : decode cX8_hang 2 = .ok (.iload_n 3, 1) := by decide +kernel
theorem dX8_hang_3 : decode cX8_hang 3 = .ok (.aload_n 0, 1) := by decide +kernel
theorem dX8_hang_4 : decode cX8_hang 4 = .ok (.getfield 7, 3) := by decide +kernel
theorem dX8_hang_7 : decode cX8_hang 7 = .ok (.if_icmp .ge 25, 3) := by decide +kernel
theorem dX8_hang_10 : decode cX8_hang 10 = .ok (.aload_n 0, 1) := by decide +kernel
theorem dX8_hang_11 : decode cX8_hang 11 = .ok (.getfield 54, 3) := by decide +kernel
theorem dX8_hang_14 : decode cX8_hang 14 = .ok (.iload_n 3, 1) := by decide +kernel
theorem dX8_hang_15 : decode cX8_hang 15 = .ok (.iload_n 3, 1) := by decide +kernel
theorem dX8_hang_16 : decode cX8_hang 16 = .ok (.iload_n 1, 1) := by decide +kernel
theorem dX8_hang_17 : decode cX8_hang 17 = .ok (.if_icmp .ne 7, 3) := by decide +kernel
theorem dX8_hang_20 : decode cX8_hang 20 = .ok (.iconst 1, 1) := by decide +kernel
theorem dX8_hang_21 : decode cX8_hang 21 = .ok (.goto 4, 3) := by decide +kernel
theorem dX8_hang_24 : decode cX8_hang 24 = .ok (.iconst 0, 1) := by decide +kernel
theorem dX8_hang_25 : decode cX8_hang 25 = .ok (.bastore, 1) := by decide +kernel
theorem dX8_hang_26 : decode cX8_hang 26 = .ok (.iinc 3 1, 3) := by decide +kernel
theorem dX8_hang_29 : decode cX8_hang 29 = .ok (.goto (-27), 3) := by decide +kernel
theorem dX8_hang_32 : decode cX8_hang 32 = .ok (.iconst 1, 1) := by decide +kernel
theorem dX8_hang_33 : decode cX8_hang 33 = .ok (.istore_n 3, 1) := by decide +kernel
theorem dX8_hang_34 : decode cX8_hang 34 = .ok (.iload_n 3, 1) := by decide +kernel
theorem dX8_hang_35 : decode cX8_hang 35 = .ok (.ifCond .eq 84, 3) := by decide +kernel
theorem dX8_hang_38 : decode cX8_hang 38 = .ok (.iconst 0, 1) := by decide +kernel
theorem dX8_hang_39 : decode cX8_hang 39 = .ok (.istore_n 3, 1) := by decide +kernel
theorem dX8_hang_40 : decode cX8_hang 40 = .ok (.iconst 0, 1) := by decide +kernel
theorem dX8_hang_41 : decode cX8_hang 41 = .ok (.istore 4, 2) := by decide +kernel
theorem dX8_hang_43 : decode cX8_hang 43 = .ok (.iload 4, 2) := by decide +kernel
theorem dX8_hang_45 : decode cX8_hang 45 = .ok (.aload_n 0, 1) := by decide +kernel
theorem dX8_hang_46 : decode cX8_hang 46 = .ok (.getfield 61, 3) := by decide +kernel
theorem dX8_hang_49 : decode cX8_hang 49 = .ok (.if_icmp .ge 67, 3) := by decide +kernel
theorem dX8_hang_52 : decode cX8_hang 52 = .ok (.aload_n 0, 1) := by decide +kernel
theorem dX8_hang_53 : decode cX8_hang 53 = .ok (.getfield 54, 3) := by decide +kernel
theorem dX8_hang_56 : decode cX8_hang 56 = .ok (.aload_n 0, 1) := by decide +kernel
theorem dX8_hang_57 : decode cX8_hang 57 = .ok (.getfield 13, 3) := by decide +kernel
theorem dX8_hang_60 : decode cX8_hang 60 = .ok (.iload 4, 2) := by decide +kernel
theorem dX8_hang_62 : decode cX8_hang 62 = .ok (.iaload, 1) := by decide +kernel
theorem dX8_hang_63 : decode cX8_hang 63 = .ok (.baload, 1) := by decide +kernel
theorem dX8_hang_64 : decode cX8_hang 64 = .ok (.aload_n 0, 1) := by decide +kernel
theorem dX8_hang_65 : decode cX8_hang 65 = .ok (.getfield 54, 3) := by decide +kernel
theorem dX8_hang_68 : decode cX8_hang 68 = .ok (.aload_n 0, 1) := by decide +kernel
theorem dX8_hang_69 : decode cX8_hang 69 = .ok (.getfield 17, 3) := by decide +kernel
theorem dX8_hang_72 : decode cX8_hang 72 = .ok (.iload 4, 2) := by decide +kernel
theorem dX8_hang_74 : decode cX8_hang 74 = .ok (.iaload, 1) := by decide +kernel
theorem dX8_hang_75 : decode cX8_hang 75 = .ok (.baload, 1) := by decide +kernel
theorem dX8_hang_76 : decode cX8_hang 76 = .ok (.if_icmp .ne 6, 3) := by decide +kernel
theorem dX8_hang_79 : decode cX8_hang 79 = .ok (.goto 31, 3) := by decide +kernel
theorem dX8_hang_82 : decode cX8_hang 82 = .ok (.aload_n 0, 1) := by decide +kernel
theorem dX8_hang_83 : decode cX8_hang 83 = .ok (.getfield 54, 3) := by decide +kernel
theorem dX8_hang_86 : decode cX8_hang 86 = .ok (.aload_n 0, 1) := by decide +kernel
theorem dX8_hang_87 : decode cX8_hang 87 = .ok (.getfield 13, 3) := by decide +kernel
theorem dX8_hang_90 : decode cX8_hang 90 = .ok (.iload 4, 2) := by decide +kernel
theorem dX8_hang_92 : decode cX8_hang 92 = .ok (.iaload, 1) := by decide +kernel
theorem dX8_hang_93 : decode cX8_hang 93 = .ok (.iconst 1, 1) := by decide +kernel
theorem dX8_hang_94 : decode cX8_hang 94 = .ok (.bastore, 1) := by decide +kernel
theorem dX8_hang_95 : decode cX8_hang 95 = .ok (.aload_n 0, 1) := by decide +kernel
theorem dX8_hang_96 : decode cX8_hang 96 = .ok (.getfield 54, 3) := by decide +kernel
theorem dX8_hang_99 : decode cX8_hang 99 = .ok (.aload_n 0, 1) := by decide +kernel
theorem dX8_hang_100 : decode cX8_hang 100 = .ok (.getfield 17, 3) := by decide +kernel
theorem dX8_hang_103 : decode cX8_hang 103 = .ok (.iload 4, 2) := by decide +kernel
theorem dX8_hang_105 : decode cX8_hang 105 = .ok (.iaload, 1) := by decide +kernel
theorem dX8_hang_106 : decode cX8_hang 106 = .ok (.iconst 1, 1) := by decide +kernel
theorem dX8_hang_107 : decode cX8_hang 107 = .ok (.bastore, 1) := by decide +kernel
theorem dX8_hang_108 : decode cX8_hang 108 = .ok (.iconst 1, 1) := by decide +kernel
theorem dX8_hang_109 : decode cX8_hang 109 = .ok (.istore_n 3, 1) := by decide +kernel
theorem dX8_hang_110 : decode cX8_hang 110 = .ok (.iinc 4 1, 3) := by decide +kernel
theorem dX8_hang_113 : decode cX8_hang 113 = .ok (.goto (-70), 3) := by decide +kernel
theorem dX8_hang_116 : decode cX8_hang 116 = .ok (.goto (-82), 3) := by decide +kernel
theorem dX8_hang_119 : decode cX8_hang 119 = .ok (.aload_n 0, 1) := by decide +kernel
theorem dX8_hang_120 : decode cX8_hang 120 = .ok (.getfield 54, 3) := by decide +kernel
theorem dX8_hang_123 : decode cX8_hang 123 = .ok (.iload_n 2, 1) := by decide +kernel
theorem dX8_hang_124 : decode cX8_hang 124 = .ok (.baload, 1) := by decide +kernel
theorem dX8_hang_125 : decode cX8_hang 125 = .ok (.ireturn, 1) := by decide +kernel
theorem dX8_lay_0 : decode cX8_lay 0 = .ok (.iload_n 1, 1) := by decide +kernel
theorem dX8_lay_1 : decode cX8_lay 1 = .ok (.ifCond .lt 16, 3) := by decide +kernel
theorem dX8_lay_4 : decode cX8_lay 4 = .ok (.aload_n 0, 1) := by decide +kernel
theorem dX8_lay_5 : decode cX8_lay 5 = .ok (.getfield 48, 3) := by decide +kernel
theorem dX8_lay_8 : decode cX8_lay 8 = .ok (.bipush 17, 2) := by decide +kernel
theorem dX8_lay_10 : decode cX8_lay 10 = .ok (.iload_n 1, 1) := by decide +kernel
theorem dX8_lay_11 : decode cX8_lay 11 = .ok (.imul, 1) := by decide +kernel
theorem dX8_lay_12 : decode cX8_lay 12 = .ok (.dup2, 1) := by decide +kernel
theorem dX8_lay_13 : decode cX8_lay 13 = .ok (.laload, 1) := by decide +kernel
theorem dX8_lay_14 : decode cX8_lay 14 = .ok (.lconst 1, 1) := by decide +kernel
theorem dX8_lay_15 : decode cX8_lay 15 = .ok (.ladd, 1) := by decide +kernel
theorem dX8_lay_16 : decode cX8_lay 16 = .ok (.lastore, 1) := by decide +kernel
theorem dX8_lay_17 : decode cX8_lay 17 = .ok (.iload_n 2, 1) := by decide +kernel
theorem dX8_lay_18 : decode cX8_lay 18 = .ok (.ifCond .lt 16, 3) := by decide +kernel
theorem dX8_lay_21 : decode cX8_lay 21 = .ok (.aload_n 0, 1) := by decide +kernel
theorem dX8_lay_22 : decode cX8_lay 22 = .ok (.getfield 48, 3) := by decide +kernel
theorem dX8_lay_25 : decode cX8_lay 25 = .ok (.bipush 17, 2) := by decide +kernel
theorem dX8_lay_27 : decode cX8_lay 27 = .ok (.iload_n 2, 1) := by decide +kernel
theorem dX8_lay_28 : decode cX8_lay 28 = .ok (.imul, 1) := by decide +kernel
theorem dX8_lay_29 : decode cX8_lay 29 = .ok (.dup2, 1) := by decide +kernel
theorem dX8_lay_30 : decode cX8_lay 30 = .ok (.laload, 1) := by decide +kernel
theorem dX8_lay_31 : decode cX8_lay 31 = .ok (.lconst 1, 1) := by decide +kernel
theorem dX8_lay_32 : decode cX8_lay 32 = .ok (.ladd, 1) := by decide +kernel
theorem dX8_lay_33 : decode cX8_lay 33 = .ok (.lastore, 1) := by decide +kernel
theorem dX8_lay_34 : decode cX8_lay 34 = .ok (.iload_n 1, 1) := by decide +kernel
theorem dX8_lay_35 : decode cX8_lay 35 = .ok (.ifCond .lt 7, 3) := by decide +kernel
theorem dX8_lay_38 : decode cX8_lay 38 = .ok (.iload_n 2, 1) := by decide +kernel
theorem dX8_lay_39 : decode cX8_lay 39 = .ok (.ifCond .ge 4, 3) := by decide +kernel
theorem dX8_lay_42 : decode cX8_lay 42 = .ok (.return_, 1) := by decide +kernel
theorem dX8_lay_43 : decode cX8_lay 43 = .ok (.aload_n 0, 1) := by decide +kernel
theorem dX8_lay_44 : decode cX8_lay 44 = .ok (.getfield 48, 3) := by decide +kernel
theorem dX8_lay_47 : decode cX8_lay 47 = .ok (.bipush 16, 2) := by decide +kernel
theorem dX8_lay_49 : decode cX8_lay 49 = .ok (.iload_n 1, 1) := by decide +kernel
theorem dX8_lay_50 : decode cX8_lay 50 = .ok (.imul, 1) := by decide +kernel
theorem dX8_lay_51 : decode cX8_lay 51 = .ok (.iload_n 2, 1) := by decide +kernel
theorem dX8_lay_52 : decode cX8_lay 52 = .ok (.iadd, 1) := by decide +kernel
theorem dX8_lay_53 : decode cX8_lay 53 = .ok (.dup2, 1) := by decide +kernel
theorem dX8_lay_54 : decode cX8_lay 54 = .ok (.laload, 1) := by decide +kernel
theorem dX8_lay_55 : decode cX8_lay 55 = .ok (.lconst 1, 1) := by decide +kernel
theorem dX8_lay_56 : decode cX8_lay 56 = .ok (.lsub, 1) := by decide +kernel
theorem dX8_lay_57 : decode cX8_lay 57 = .ok (.lastore, 1) := by decide +kernel
theorem dX8_lay_58 : decode cX8_lay 58 = .ok (.aload_n 0, 1) := by decide +kernel
theorem dX8_lay_59 : decode cX8_lay 59 = .ok (.getfield 48, 3) := by decide +kernel
theorem dX8_lay_62 : decode cX8_lay 62 = .ok (.bipush 16, 2) := by decide +kernel
theorem dX8_lay_64 : decode cX8_lay 64 = .ok (.iload_n 2, 1) := by decide +kernel
theorem dX8_lay_65 : decode cX8_lay 65 = .ok (.imul, 1) := by decide +kernel
theorem dX8_lay_66 : decode cX8_lay 66 = .ok (.iload_n 1, 1) := by decide +kernel
theorem dX8_lay_67 : decode cX8_lay 67 = .ok (.iadd, 1) := by decide +kernel
theorem dX8_lay_68 : decode cX8_lay 68 = .ok (.dup2, 1) := by decide +kernel
theorem dX8_lay_69 : decode cX8_lay 69 = .ok (.laload, 1) := by decide +kernel
theorem dX8_lay_70 : decode cX8_lay 70 = .ok (.lconst 1, 1) := by decide +kernel
theorem dX8_lay_71 : decode cX8_lay 71 = .ok (.lsub, 1) := by decide +kernel
theorem dX8_lay_72 : decode cX8_lay 72 = .ok (.lastore, 1) := by decide +kernel
theorem dX8_lay_73 : decode cX8_lay 73 = .ok (.return_, 1) := by decide +kernel
theorem dX8_determinant_0 : decode cX8_determinant 0 = .ok (.lconst 1, 1) := by decide +kernel
theorem dX8_determinant_1 : decode cX8_determinant 1 = .ok (.lstore_n 2, 1) := by decide +kernel
theorem dX8_determinant_2 : decode cX8_determinant 2 = .ok (.iconst 0, 1) := by decide +kernel
theorem dX8_determinant_3 : decode cX8_determinant 3 = .ok (.istore 4, 2) := by decide +kernel
theorem dX8_determinant_5 : decode cX8_determinant 5 = .ok (.iload 4, 2) := by decide +kernel
theorem dX8_determinant_7 : decode cX8_determinant 7 = .ok (.iload_n 1, 1) := by decide +kernel
theorem dX8_determinant_8 : decode cX8_determinant 8 = .ok (.if_icmp .ge 119, 3) := by decide +kernel
theorem dX8_determinant_11 : decode cX8_determinant 11 = .ok (.aload_n 0, 1) := by decide +kernel
theorem dX8_determinant_12 : decode cX8_determinant 12 = .ok (.getfield 48, 3) := by decide +kernel
theorem dX8_determinant_15 : decode cX8_determinant 15 = .ok (.bipush 17, 2) := by decide +kernel
theorem dX8_determinant_17 : decode cX8_determinant 17 = .ok (.iload 4, 2) := by decide +kernel
theorem dX8_determinant_19 : decode cX8_determinant 19 = .ok (.imul, 1) := by decide +kernel
theorem dX8_determinant_20 : decode cX8_determinant 20 = .ok (.laload, 1) := by decide +kernel
theorem dX8_determinant_21 : decode cX8_determinant 21 = .ok (.lstore 5, 2) := by decide +kernel
theorem dX8_determinant_23 : decode cX8_determinant 23 = .ok (.iload 4, 2) := by decide +kernel
theorem dX8_determinant_25 : decode cX8_determinant 25 = .ok (.iconst 1, 1) := by decide +kernel
theorem dX8_determinant_26 : decode cX8_determinant 26 = .ok (.iadd, 1) := by decide +kernel
theorem dX8_determinant_27 : decode cX8_determinant 27 = .ok (.istore 7, 2) := by decide +kernel
theorem dX8_determinant_29 : decode cX8_determinant 29 = .ok (.iload 7, 2) := by decide +kernel
theorem dX8_determinant_31 : decode cX8_determinant 31 = .ok (.iload_n 1, 1) := by decide +kernel
theorem dX8_determinant_32 : decode cX8_determinant 32 = .ok (.if_icmp .ge 86, 3) := by decide +kernel
theorem dX8_determinant_35 : decode cX8_determinant 35 = .ok (.iload 4, 2) := by decide +kernel
theorem dX8_determinant_37 : decode cX8_determinant 37 = .ok (.iconst 1, 1) := by decide +kernel
theorem dX8_determinant_38 : decode cX8_determinant 38 = .ok (.iadd, 1) := by decide +kernel
theorem dX8_determinant_39 : decode cX8_determinant 39 = .ok (.istore 8, 2) := by decide +kernel
theorem dX8_determinant_41 : decode cX8_determinant 41 = .ok (.iload 8, 2) := by decide +kernel
theorem dX8_determinant_43 : decode cX8_determinant 43 = .ok (.iload_n 1, 1) := by decide +kernel
theorem dX8_determinant_44 : decode cX8_determinant 44 = .ok (.if_icmp .ge 68, 3) := by decide +kernel
theorem dX8_determinant_47 : decode cX8_determinant 47 = .ok (.aload_n 0, 1) := by decide +kernel
theorem dX8_determinant_48 : decode cX8_determinant 48 = .ok (.getfield 48, 3) := by decide +kernel
theorem dX8_determinant_51 : decode cX8_determinant 51 = .ok (.bipush 16, 2) := by decide +kernel
theorem dX8_determinant_53 : decode cX8_determinant 53 = .ok (.iload 7, 2) := by decide +kernel
theorem dX8_determinant_55 : decode cX8_determinant 55 = .ok (.imul, 1) := by decide +kernel
theorem dX8_determinant_56 : decode cX8_determinant 56 = .ok (.iload 8, 2) := by decide +kernel
theorem dX8_determinant_58 : decode cX8_determinant 58 = .ok (.iadd, 1) := by decide +kernel
theorem dX8_determinant_59 : decode cX8_determinant 59 = .ok (.aload_n 0, 1) := by decide +kernel
theorem dX8_determinant_60 : decode cX8_determinant 60 = .ok (.getfield 48, 3) := by decide +kernel
theorem dX8_determinant_63 : decode cX8_determinant 63 = .ok (.bipush 16, 2) := by decide +kernel
theorem dX8_determinant_65 : decode cX8_determinant 65 = .ok (.iload 7, 2) := by decide +kernel
theorem dX8_determinant_67 : decode cX8_determinant 67 = .ok (.imul, 1) := by decide +kernel
theorem dX8_determinant_68 : decode cX8_determinant 68 = .ok (.iload 8, 2) := by decide +kernel
theorem dX8_determinant_70 : decode cX8_determinant 70 = .ok (.iadd, 1) := by decide +kernel
theorem dX8_determinant_71 : decode cX8_determinant 71 = .ok (.laload, 1) := by decide +kernel
theorem dX8_determinant_72 : decode cX8_determinant 72 = .ok (.lload 5, 2) := by decide +kernel
theorem dX8_determinant_74 : decode cX8_determinant 74 = .ok (.lmul, 1) := by decide +kernel
theorem dX8_determinant_75 : decode cX8_determinant 75 = .ok (.aload_n 0, 1) := by decide +kernel
theorem dX8_determinant_76 : decode cX8_determinant 76 = .ok (.getfield 48, 3) := by decide +kernel
theorem dX8_determinant_79 : decode cX8_determinant 79 = .ok (.bipush 16, 2) := by decide +kernel
theorem dX8_determinant_81 : decode cX8_determinant 81 = .ok (.iload 7, 2) := by decide +kernel
theorem dX8_determinant_83 : decode cX8_determinant 83 = .ok (.imul, 1) := by decide +kernel
theorem dX8_determinant_84 : decode cX8_determinant 84 = .ok (.iload 4, 2) := by decide +kernel
theorem dX8_determinant_86 : decode cX8_determinant 86 = .ok (.iadd, 1) := by decide +kernel
theorem dX8_determinant_87 : decode cX8_determinant 87 = .ok (.laload, 1) := by decide +kernel
theorem dX8_determinant_88 : decode cX8_determinant 88 = .ok (.aload_n 0, 1) := by decide +kernel
theorem dX8_determinant_89 : decode cX8_determinant 89 = .ok (.getfield 48, 3) := by decide +kernel
theorem dX8_determinant_92 : decode cX8_determinant 92 = .ok (.bipush 16, 2) := by decide +kernel
theorem dX8_determinant_94 : decode cX8_determinant 94 = .ok (.iload 4, 2) := by decide +kernel
theorem dX8_determinant_96 : decode cX8_determinant 96 = .ok (.imul, 1) := by decide +kernel
theorem dX8_determinant_97 : decode cX8_determinant 97 = .ok (.iload 8, 2) := by decide +kernel
theorem dX8_determinant_99 : decode cX8_determinant 99 = .ok (.iadd, 1) := by decide +kernel
theorem dX8_determinant_100 : decode cX8_determinant 100 = .ok (.laload, 1) := by decide +kernel
theorem dX8_determinant_101 : decode cX8_determinant 101 = .ok (.lmul, 1) := by decide +kernel
theorem dX8_determinant_102 : decode cX8_determinant 102 = .ok (.lsub, 1) := by decide +kernel
theorem dX8_determinant_103 : decode cX8_determinant 103 = .ok (.lload_n 2, 1) := by decide +kernel
theorem dX8_determinant_104 : decode cX8_determinant 104 = .ok (.ldiv, 1) := by decide +kernel
theorem dX8_determinant_105 : decode cX8_determinant 105 = .ok (.lastore, 1) := by decide +kernel
theorem dX8_determinant_106 : decode cX8_determinant 106 = .ok (.iinc 8 1, 3) := by decide +kernel
theorem dX8_determinant_109 : decode cX8_determinant 109 = .ok (.goto (-68), 3) := by decide +kernel
theorem dX8_determinant_112 : decode cX8_determinant 112 = .ok (.iinc 7 1, 3) := by decide +kernel
theorem dX8_determinant_115 : decode cX8_determinant 115 = .ok (.goto (-86), 3) := by decide +kernel
theorem dX8_determinant_118 : decode cX8_determinant 118 = .ok (.lload 5, 2) := by decide +kernel
theorem dX8_determinant_120 : decode cX8_determinant 120 = .ok (.lstore_n 2, 1) := by decide +kernel
theorem dX8_determinant_121 : decode cX8_determinant 121 = .ok (.iinc 4 1, 3) := by decide +kernel
theorem dX8_determinant_124 : decode cX8_determinant 124 = .ok (.goto (-119), 3) := by decide +kernel
theorem dX8_determinant_127 : decode cX8_determinant 127 = .ok (.lload_n 2, 1) := by decide +kernel
theorem dX8_determinant_128 : decode cX8_determinant 128 = .ok (.lreturn, 1) := by decide +kernel
set_option maxRecDepth 20000 in
theorem ggX8_lightest_X8_isSet : GoodIn wsX8_lightest wsX8_isSet := goodIn_r _ [11, 2, 38, 39, 40, 41, 42, 43, 44, 45, 46, 47, 48, 49, 50, 51, 52, 53, 54, 55, 56, 57] (by decide +kernel) (by decide +kernel)
set_option maxRecDepth 20000 in
theorem gX8_lightest_X8_isSet : GoodIn wsX8_lightest (wsV RX8 89 RX8 yX8_isSet wsX8_isSet) := goodIn_app (goodIn_of _ (by decide +kernel)) ggX8_lightest_X8_isSet
set_option maxRecDepth 20000 in
theorem ggX8_lightest_X8_throwing : GoodIn wsX8_lightest wsX8_throwing := goodIn_r _ [15, 16, 38, 39, 40, 41, 42, 43, 44, 45, 46, 47, 48, 49, 50, 51, 52, 53, 54, 55, 56, 57] (by decide +kernel) (by decide +kernel)
set_option maxRecDepth 20000 in
theorem gX8_lightest_X8_throwing : GoodIn wsX8_lightest (wsV RX8 78 RX8 yX8_throwing wsX8_throwing) := goodIn_app (goodIn_of _ (by decide +kernel)) ggX8_lightest_X8_throwing
set_option maxRecDepth 20000 in
theorem ggX8_lightest_X8_beginsWith : GoodIn wsX8_lightest wsX8_beginsWith := goodIn_r _ [20, 2, 21, 22, 23, 10, 24, 25, 3, 26, 27, 28, 29, 30, 4, 5, 31, 32, 33, 38, 39, 40, 41, 42, 43, 44, 45, 46, 47, 48, 49, 50, 51, 52, 53, 54, 55, 56, 57] (by decide +kernel) (by decide +kernel)
set_option maxRecDepth 20000 in
theorem gX8_lightest_X8_beginsWith : GoodIn wsX8_lightest (wsV RX8 93 RX8 yX8_beginsWith wsX8_beginsWith) := goodIn_app (goodIn_of _ (by decide +kernel)) ggX8_lightest_X8_beginsWith
set_option maxRecDepth 20000 in
theorem ggX8_lightest_X8_weightOf : GoodIn wsX8_lightest wsX8_weightOf := goodIn_r _ [37, 2, 6, 38, 39, 40, 41, 42, 43, 44, 45, 46, 47, 48, 49, 50, 51, 52, 53, 54, 55, 56, 57] (by decide +kernel) (by decide +kernel)
set_option maxRecDepth 20000 in
theorem gX8_lightest_X8_weightOf : GoodIn wsX8_lightest (wsV RX8 113 RX8 yX8_weightOf wsX8_weightOf) := goodIn_app (goodIn_of _ (by decide +kernel)) ggX8_lightest_X8_weightOf
set_option maxRecDepth 20000 in
theorem ggX8_lightest_X8_joins : GoodIn wsX8_lightest wsX8_joins := goodIn_r _ [30, 4, 5, 3, 31, 25, 26, 32, 33, 38, 39, 40, 41, 42, 43, 44, 45, 46, 47, 48, 49, 50, 51, 52, 53, 54, 55, 56, 57] (by decide +kernel) (by decide +kernel)
set_option maxRecDepth 20000 in
theorem gX8_lightest_X8_joins : GoodIn wsX8_lightest (wsV RX8 70 RX8 yX8_joins wsX8_joins) := goodIn_app (goodIn_of _ (by decide +kernel)) ggX8_lightest_X8_joins
theorem dX8_lightest_0 : decode cX8_lightest 0 = .ok (.aload_n 0, 1) := by decide +kernel
theorem dX8_lightest_1 : decode cX8_lightest 1 = .ok (.aload_n 0, 1) := by decide +kernel
theorem dX8_lightest_2 : decode cX8_lightest 2 = .ok (.lload_n 1, 1) := by decide +kernel
theorem dX8_lightest_3 : decode cX8_lightest 3 = .ok (.invokevirtual 89, 3) := by decide +kernel
theorem dX8_lightest_6 : decode cX8_lightest 6 = .ok (.ifCond .ne 7, 3) := by decide +kernel
theorem dX8_lightest_9 : decode cX8_lightest 9 = .ok (.iconst 1, 1) := by decide +kernel
theorem dX8_lightest_10 : decode cX8_lightest 10 = .ok (.goto 4, 3) := by decide +kernel
theorem dX8_lightest_13 : decode cX8_lightest 13 = .ok (.iconst 0, 1) := by decide +kernel
theorem dX8_lightest_14 : decode cX8_lightest 14 = .ok (.iconst 0, 1) := by decide +kernel
theorem dX8_lightest_15 : decode cX8_lightest 15 = .ok (.invokevirtual 78, 3) := by decide +kernel
theorem dX8_lightest_18 : decode cX8_lightest 18 = .ok (.ifCond .eq 5, 3) := by decide +kernel
theorem dX8_lightest_21 : decode cX8_lightest 21 = .ok (.lconst 0, 1) := by decide +kernel
theorem dX8_lightest_22 : decode cX8_lightest 22 = .ok (.lreturn, 1) := by decide +kernel
theorem dX8_lightest_23 : decode cX8_lightest 23 = .ok (.aload_n 0, 1) := by decide +kernel
theorem dX8_lightest_24 : decode cX8_lightest 24 = .ok (.lload_n 1, 1) := by decide +kernel
theorem dX8_lightest_25 : decode cX8_lightest 25 = .ok (.invokevirtual 93, 3) := by decide +kernel
theorem dX8_lightest_28 : decode cX8_lightest 28 = .ok (.ifCond .ne 7, 3) := by decide +kernel
theorem dX8_lightest_31 : decode cX8_lightest 31 = .ok (.ldc2_w 111, 3) := by decide +kernel
theorem dX8_lightest_34 : decode cX8_lightest 34 = .ok (.lreturn, 1) := by decide +kernel
theorem dX8_lightest_35 : decode cX8_lightest 35 = .ok (.aload_n 0, 1) := by decide +kernel
theorem dX8_lightest_36 : decode cX8_lightest 36 = .ok (.lload_n 1, 1) := by decide +kernel
theorem dX8_lightest_37 : decode cX8_lightest 37 = .ok (.invokevirtual 113, 3) := by decide +kernel
theorem dX8_lightest_40 : decode cX8_lightest 40 = .ok (.lstore_n 3, 1) := by decide +kernel
theorem dX8_lightest_41 : decode cX8_lightest 41 = .ok (.iconst 1, 1) := by decide +kernel
theorem dX8_lightest_42 : decode cX8_lightest 42 = .ok (.istore 5, 2) := by decide +kernel
theorem dX8_lightest_44 : decode cX8_lightest 44 = .ok (.iload 5, 2) := by decide +kernel
theorem dX8_lightest_46 : decode cX8_lightest 46 = .ok (.ifCond .eq 124, 3) := by decide +kernel
theorem dX8_lightest_49 : decode cX8_lightest 49 = .ok (.iconst (-1), 1) := by decide +kernel
theorem dX8_lightest_50 : decode cX8_lightest 50 = .ok (.istore 6, 2) := by decide +kernel
theorem dX8_lightest_52 : decode cX8_lightest 52 = .ok (.iconst 0, 1) := by decide +kernel
theorem dX8_lightest_53 : decode cX8_lightest 53 = .ok (.istore 7, 2) := by decide +kernel
theorem dX8_lightest_55 : decode cX8_lightest 55 = .ok (.iload 7, 2) := by decide +kernel
theorem dX8_lightest_57 : decode cX8_lightest 57 = .ok (.aload_n 0, 1) := by decide +kernel
theorem dX8_lightest_58 : decode cX8_lightest 58 = .ok (.getfield 61, 3) := by decide +kernel
theorem dX8_lightest_61 : decode cX8_lightest 61 = .ok (.if_icmp .ge 65, 3) := by decide +kernel
theorem dX8_lightest_64 : decode cX8_lightest 64 = .ok (.aload_n 0, 1) := by decide +kernel
theorem dX8_lightest_65 : decode cX8_lightest 65 = .ok (.getfield 27, 3) := by decide +kernel
theorem dX8_lightest_68 : decode cX8_lightest 68 = .ok (.aload_n 0, 1) := by decide +kernel
theorem dX8_lightest_69 : decode cX8_lightest 69 = .ok (.getfield 13, 3) := by decide +kernel
theorem dX8_lightest_72 : decode cX8_lightest 72 = .ok (.iload 7, 2) := by decide +kernel
theorem dX8_lightest_74 : decode cX8_lightest 74 = .ok (.iaload, 1) := by decide +kernel
theorem dX8_lightest_75 : decode cX8_lightest 75 = .ok (.iaload, 1) := by decide +kernel
theorem dX8_lightest_76 : decode cX8_lightest 76 = .ok (.aload_n 0, 1) := by decide +kernel
theorem dX8_lightest_77 : decode cX8_lightest 77 = .ok (.getfield 27, 3) := by decide +kernel
theorem dX8_lightest_80 : decode cX8_lightest 80 = .ok (.aload_n 0, 1) := by decide +kernel
theorem dX8_lightest_81 : decode cX8_lightest 81 = .ok (.getfield 17, 3) := by decide +kernel
theorem dX8_lightest_84 : decode cX8_lightest 84 = .ok (.iload 7, 2) := by decide +kernel
theorem dX8_lightest_86 : decode cX8_lightest 86 = .ok (.iaload, 1) := by decide +kernel
theorem dX8_lightest_87 : decode cX8_lightest 87 = .ok (.iaload, 1) := by decide +kernel
theorem dX8_lightest_88 : decode cX8_lightest 88 = .ok (.if_icmp .ne 6, 3) := by decide +kernel
theorem dX8_lightest_91 : decode cX8_lightest 91 = .ok (.goto 29, 3) := by decide +kernel
theorem dX8_lightest_94 : decode cX8_lightest 94 = .ok (.iload 6, 2) := by decide +kernel
theorem dX8_lightest_96 : decode cX8_lightest 96 = .ok (.ifCond .lt 20, 3) := by decide +kernel
theorem dX8_lightest_99 : decode cX8_lightest 99 = .ok (.aload_n 0, 1) := by decide +kernel
theorem dX8_lightest_100 : decode cX8_lightest 100 = .ok (.getfield 20, 3) := by decide +kernel
theorem dX8_lightest_103 : decode cX8_lightest 103 = .ok (.iload 7, 2) := by decide +kernel
theorem dX8_lightest_105 : decode cX8_lightest 105 = .ok (.iaload, 1) := by decide +kernel
theorem dX8_lightest_106 : decode cX8_lightest 106 = .ok (.aload_n 0, 1) := by decide +kernel
theorem dX8_lightest_107 : decode cX8_lightest 107 = .ok (.getfield 20, 3) := by decide +kernel
theorem dX8_lightest_110 : decode cX8_lightest 110 = .ok (.iload 6, 2) := by decide +kernel
theorem dX8_lightest_112 : decode cX8_lightest 112 = .ok (.iaload, 1) := by decide +kernel
theorem dX8_lightest_113 : decode cX8_lightest 113 = .ok (.if_icmp .ge 7, 3) := by decide +kernel
theorem dX8_lightest_116 : decode cX8_lightest 116 = .ok (.iload 7, 2) := by decide +kernel
theorem dX8_lightest_118 : decode cX8_lightest 118 = .ok (.istore 6, 2) := by decide +kernel
theorem dX8_lightest_120 : decode cX8_lightest 120 = .ok (.iinc 7 1, 3) := by decide +kernel
theorem dX8_lightest_123 : decode cX8_lightest 123 = .ok (.goto (-68), 3) := by decide +kernel
theorem dX8_lightest_126 : decode cX8_lightest 126 = .ok (.iload 6, 2) := by decide +kernel
theorem dX8_lightest_128 : decode cX8_lightest 128 = .ok (.ifCond .lt 16, 3) := by decide +kernel
theorem dX8_lightest_131 : decode cX8_lightest 131 = .ok (.aload_n 0, 1) := by decide +kernel
theorem dX8_lightest_132 : decode cX8_lightest 132 = .ok (.iload 6, 2) := by decide +kernel
theorem dX8_lightest_134 : decode cX8_lightest 134 = .ok (.invokevirtual 70, 3) := by decide +kernel
theorem dX8_lightest_137 : decode cX8_lightest 137 = .ok (.ifCond .eq 7, 3) := by decide +kernel
theorem dX8_lightest_140 : decode cX8_lightest 140 = .ok (.iconst 1, 1) := by decide +kernel
theorem dX8_lightest_141 : decode cX8_lightest 141 = .ok (.goto 4, 3) := by decide +kernel
theorem dX8_lightest_144 : decode cX8_lightest 144 = .ok (.iconst 0, 1) := by decide +kernel
theorem dX8_lightest_145 : decode cX8_lightest 145 = .ok (.istore 5, 2) := by decide +kernel
theorem dX8_lightest_147 : decode cX8_lightest 147 = .ok (.lload_n 3, 1) := by decide +kernel
theorem dX8_lightest_148 : decode cX8_lightest 148 = .ok (.iload 5, 2) := by decide +kernel
theorem dX8_lightest_150 : decode cX8_lightest 150 = .ok (.ifCond .eq 14, 3) := by decide +kernel
theorem dX8_lightest_153 : decode cX8_lightest 153 = .ok (.aload_n 0, 1) := by decide +kernel
theorem dX8_lightest_154 : decode cX8_lightest 154 = .ok (.getfield 20, 3) := by decide +kernel
theorem dX8_lightest_157 : decode cX8_lightest 157 = .ok (.iload 6, 2) := by decide +kernel
theorem dX8_lightest_159 : decode cX8_lightest 159 = .ok (.iaload, 1) := by decide +kernel
theorem dX8_lightest_160 : decode cX8_lightest 160 = .ok (.i2l, 1) := by decide +kernel
theorem dX8_lightest_161 : decode cX8_lightest 161 = .ok (.goto 4, 3) := by decide +kernel
theorem dX8_lightest_164 : decode cX8_lightest 164 = .ok (.lconst 0, 1) := by decide +kernel
theorem dX8_lightest_165 : decode cX8_lightest 165 = .ok (.ladd, 1) := by decide +kernel
theorem dX8_lightest_166 : decode cX8_lightest 166 = .ok (.lstore_n 3, 1) := by decide +kernel
theorem dX8_lightest_167 : decode cX8_lightest 167 = .ok (.goto (-123), 3) := by decide +kernel
theorem dX8_lightest_170 : decode cX8_lightest 170 = .ok (.lload_n 3, 1) := by decide +kernel
theorem dX8_lightest_171 : decode cX8_lightest 171 = .ok (.lreturn, 1) := by decide +kernel
set_option maxRecDepth 20000 in
theorem ggX8_spread_X8_dimension : GoodIn wsX8_spread wsX8_dimension := goodIn_r _ [9, 10, 11, 12, 13, 14, 8, 15, 16, 17, 18, 19, 2, 20, 21, 22, 23, 24, 25, 26, 27, 3, 28, 34, 35, 36, 37, 38, 39, 40, 41, 42, 43, 44, 45, 46, 47, 48, 49, 50, 51, 52, 53] (by decide +kernel) (by decide +kernel)
set_option maxRecDepth 20000 in
theorem gX8_spread_X8_dimension : GoodIn wsX8_spread (wsV RX8 86 RX8 yX8_dimension wsX8_dimension) := goodIn_app (goodIn_of _ (by decide +kernel)) ggX8_spread_X8_dimension
set_option maxRecDepth 20000 in
theorem ggX8_spread_X8_weightOf : GoodIn wsX8_spread wsX8_weightOf := goodIn_r _ [32, 10, 33, 34, 35, 36, 37, 38, 39, 40, 41, 42, 43, 44, 45, 46, 47, 48, 49, 50, 51, 52, 53] (by decide +kernel) (by decide +kernel)
set_option maxRecDepth 20000 in
theorem gX8_spread_X8_weightOf : GoodIn wsX8_spread (wsV RX8 113 RX8 yX8_weightOf wsX8_weightOf) := goodIn_app (goodIn_of _ (by decide +kernel)) ggX8_spread_X8_weightOf
theorem dX8_spread_0 : decode cX8_spread 0 = .ok (.iconst 1, 1) := by decide +kernel
theorem dX8_spread_1 : decode cX8_spread 1 = .ok (.aload_n 0, 1) := by decide +kernel
theorem dX8_spread_2 : decode cX8_spread 2 = .ok (.invokevirtual 86, 3) := by decide +kernel
theorem dX8_spread_5 : decode cX8_spread 5 = .ok (.ishl, 1) := by decide +kernel
theorem dX8_spread_6 : decode cX8_spread 6 = .ok (.istore_n 1, 1) := by decide +kernel
theorem dX8_spread_7 : decode cX8_spread 7 = .ok (.iconst 0, 1) := by decide +kernel
theorem dX8_spread_8 : decode cX8_spread 8 = .ok (.istore_n 2, 1) := by decide +kernel
theorem dX8_spread_9 : decode cX8_spread 9 = .ok (.iload_n 2, 1) := by decide +kernel
theorem dX8_spread_10 : decode cX8_spread 10 = .ok (.iload_n 1, 1) := by decide +kernel
theorem dX8_spread_11 : decode cX8_spread 11 = .ok (.if_icmp .ge 72, 3) := by decide +kernel
theorem dX8_spread_14 : decode cX8_spread 14 = .ok (.aload_n 0, 1) := by decide +kernel
theorem dX8_spread_15 : decode cX8_spread 15 = .ok (.getfield 39, 3) := by decide +kernel
theorem dX8_spread_18 : decode cX8_spread 18 = .ok (.iload_n 2, 1) := by decide +kernel
theorem dX8_spread_19 : decode cX8_spread 19 = .ok (.lconst 0, 1) := by decide +kernel
theorem dX8_spread_20 : decode cX8_spread 20 = .ok (.lastore, 1) := by decide +kernel
theorem dX8_spread_21 : decode cX8_spread 21 = .ok (.iconst 0, 1) := by decide +kernel
theorem dX8_spread_22 : decode cX8_spread 22 = .ok (.istore_n 3, 1) := by decide +kernel
theorem dX8_spread_23 : decode cX8_spread 23 = .ok (.iload_n 3, 1) := by decide +kernel
theorem dX8_spread_24 : decode cX8_spread 24 = .ok (.aload_n 0, 1) := by decide +kernel
theorem dX8_spread_25 : decode cX8_spread 25 = .ok (.getfield 64, 3) := by decide +kernel
theorem dX8_spread_28 : decode cX8_spread 28 = .ok (.if_icmp .ge 33, 3) := by decide +kernel
theorem dX8_spread_31 : decode cX8_spread 31 = .ok (.iload_n 2, 1) := by decide +kernel
theorem dX8_spread_32 : decode cX8_spread 32 = .ok (.iload_n 3, 1) := by decide +kernel
theorem dX8_spread_33 : decode cX8_spread 33 = .ok (.ishr, 1) := by decide +kernel
theorem dX8_spread_34 : decode cX8_spread 34 = .ok (.iconst 1, 1) := by decide +kernel
theorem dX8_spread_35 : decode cX8_spread 35 = .ok (.iand, 1) := by decide +kernel
theorem dX8_spread_36 : decode cX8_spread 36 = .ok (.iconst 1, 1) := by decide +kernel
theorem dX8_spread_37 : decode cX8_spread 37 = .ok (.if_icmp .ne 18, 3) := by decide +kernel
theorem dX8_spread_40 : decode cX8_spread 40 = .ok (.aload_n 0, 1) := by decide +kernel
theorem dX8_spread_41 : decode cX8_spread 41 = .ok (.getfield 39, 3) := by decide +kernel
theorem dX8_spread_44 : decode cX8_spread 44 = .ok (.iload_n 2, 1) := by decide +kernel
theorem dX8_spread_45 : decode cX8_spread 45 = .ok (.dup2, 1) := by decide +kernel
theorem dX8_spread_46 : decode cX8_spread 46 = .ok (.laload, 1) := by decide +kernel
theorem dX8_spread_47 : decode cX8_spread 47 = .ok (.aload_n 0, 1) := by decide +kernel
theorem dX8_spread_48 : decode cX8_spread 48 = .ok (.getfield 33, 3) := by decide +kernel
theorem dX8_spread_51 : decode cX8_spread 51 = .ok (.iload_n 3, 1) := by decide +kernel
theorem dX8_spread_52 : decode cX8_spread 52 = .ok (.laload, 1) := by decide +kernel
theorem dX8_spread_53 : decode cX8_spread 53 = .ok (.lxor, 1) := by decide +kernel
theorem dX8_spread_54 : decode cX8_spread 54 = .ok (.lastore, 1) := by decide +kernel
theorem dX8_spread_55 : decode cX8_spread 55 = .ok (.iinc 3 1, 3) := by decide +kernel
theorem dX8_spread_58 : decode cX8_spread 58 = .ok (.goto (-35), 3) := by decide +kernel
theorem dX8_spread_61 : decode cX8_spread 61 = .ok (.aload_n 0, 1) := by decide +kernel
theorem dX8_spread_62 : decode cX8_spread 62 = .ok (.getfield 42, 3) := by decide +kernel
theorem dX8_spread_65 : decode cX8_spread 65 = .ok (.iload_n 2, 1) := by decide +kernel
theorem dX8_spread_66 : decode cX8_spread 66 = .ok (.aload_n 0, 1) := by decide +kernel
theorem dX8_spread_67 : decode cX8_spread 67 = .ok (.aload_n 0, 1) := by decide +kernel
theorem dX8_spread_68 : decode cX8_spread 68 = .ok (.getfield 39, 3) := by decide +kernel
theorem dX8_spread_71 : decode cX8_spread 71 = .ok (.iload_n 2, 1) := by decide +kernel
theorem dX8_spread_72 : decode cX8_spread 72 = .ok (.laload, 1) := by decide +kernel
theorem dX8_spread_73 : decode cX8_spread 73 = .ok (.invokevirtual 113, 3) := by decide +kernel
theorem dX8_spread_76 : decode cX8_spread 76 = .ok (.lastore, 1) := by decide +kernel
theorem dX8_spread_77 : decode cX8_spread 77 = .ok (.iinc 2 1, 3) := by decide +kernel
theorem dX8_spread_80 : decode cX8_spread 80 = .ok (.goto (-71), 3) := by decide +kernel
theorem dX8_spread_83 : decode cX8_spread 83 = .ok (.iload_n 1, 1) := by decide +kernel
theorem dX8_spread_84 : decode cX8_spread 84 = .ok (.ireturn, 1) := by decide +kernel
theorem dX8_endsAt_0 : decode cX8_endsAt 0 = .ok (.iconst 0, 1) := by decide +kernel
theorem dX8_endsAt_1 : decode cX8_endsAt 1 = .ok (.istore 4, 2) := by decide +kernel
theorem dX8_endsAt_3 : decode cX8_endsAt 3 = .ok (.iconst 0, 1) := by decide +kernel
theorem dX8_endsAt_4 : decode cX8_endsAt 4 = .ok (.istore 5, 2) := by decide +kernel
theorem dX8_endsAt_6 : decode cX8_endsAt 6 = .ok (.iload 5, 2) := by decide +kernel
theorem dX8_endsAt_8 : decode cX8_endsAt 8 = .ok (.aload_n 0, 1) := by decide +kernel
theorem dX8_endsAt_9 : decode cX8_endsAt 9 = .ok (.getfield 61, 3) := by decide +kernel
theorem dX8_endsAt_12 : decode cX8_endsAt 12 = .ok (.if_icmp .ge 65, 3) := by decide +kernel
theorem dX8_endsAt_15 : decode cX8_endsAt 15 = .ok (.lload_n 1, 1) := by decide +kernel
theorem dX8_endsAt_16 : decode cX8_endsAt 16 = .ok (.iload 5, 2) := by decide +kernel
theorem dX8_endsAt_18 : decode cX8_endsAt 18 = .ok (.lshr, 1) := by decide +kernel
theorem dX8_endsAt_19 : decode cX8_endsAt 19 = .ok (.lconst 1, 1) := by decide +kernel
theorem dX8_endsAt_20 : decode cX8_endsAt 20 = .ok (.land, 1) := by decide +kernel
theorem dX8_endsAt_21 : decode cX8_endsAt 21 = .ok (.lconst 0, 1) := by decide +kernel
theorem dX8_endsAt_22 : decode cX8_endsAt 22 = .ok (.lcmp, 1) := by decide +kernel
theorem dX8_endsAt_23 : decode cX8_endsAt 23 = .ok (.ifCond .ne 6, 3) := by decide +kernel
theorem dX8_endsAt_26 : decode cX8_endsAt 26 = .ok (.goto 45, 3) := by decide +kernel
theorem dX8_endsAt_29 : decode cX8_endsAt 29 = .ok (.iload 4, 2) := by decide +kernel
theorem dX8_endsAt_31 : decode cX8_endsAt 31 = .ok (.aload_n 0, 1) := by decide +kernel
theorem dX8_endsAt_32 : decode cX8_endsAt 32 = .ok (.getfield 13, 3) := by decide +kernel
theorem dX8_endsAt_35 : decode cX8_endsAt 35 = .ok (.iload 5, 2) := by decide +kernel
theorem dX8_endsAt_37 : decode cX8_endsAt 37 = .ok (.iaload, 1) := by decide +kernel
theorem dX8_endsAt_38 : decode cX8_endsAt 38 = .ok (.iload_n 3, 1) := by decide +kernel
theorem dX8_endsAt_39 : decode cX8_endsAt 39 = .ok (.if_icmp .ne 7, 3) := by decide +kernel
theorem dX8_endsAt_42 : decode cX8_endsAt 42 = .ok (.iconst 1, 1) := by decide +kernel
theorem dX8_endsAt_43 : decode cX8_endsAt 43 = .ok (.goto 4, 3) := by decide +kernel
theorem dX8_endsAt_46 : decode cX8_endsAt 46 = .ok (.iconst 0, 1) := by decide +kernel
theorem dX8_endsAt_47 : decode cX8_endsAt 47 = .ok (.iadd, 1) := by decide +kernel
theorem dX8_endsAt_48 : decode cX8_endsAt 48 = .ok (.istore 4, 2) := by decide +kernel
theorem dX8_endsAt_50 : decode cX8_endsAt 50 = .ok (.iload 4, 2) := by decide +kernel
theorem dX8_endsAt_52 : decode cX8_endsAt 52 = .ok (.aload_n 0, 1) := by decide +kernel
theorem dX8_endsAt_53 : decode cX8_endsAt 53 = .ok (.getfield 17, 3) := by decide +kernel
theorem dX8_endsAt_56 : decode cX8_endsAt 56 = .ok (.iload 5, 2) := by decide +kernel
theorem dX8_endsAt_58 : decode cX8_endsAt 58 = .ok (.iaload, 1) := by decide +kernel
theorem dX8_endsAt_59 : decode cX8_endsAt 59 = .ok (.iload_n 3, 1) := by decide +kernel
theorem dX8_endsAt_60 : decode cX8_endsAt 60 = .ok (.if_icmp .ne 7, 3) := by decide +kernel
theorem dX8_endsAt_63 : decode cX8_endsAt 63 = .ok (.iconst 1, 1) := by decide +kernel
theorem dX8_endsAt_64 : decode cX8_endsAt 64 = .ok (.goto 4, 3) := by decide +kernel
theorem dX8_endsAt_67 : decode cX8_endsAt 67 = .ok (.iconst 0, 1) := by decide +kernel
theorem dX8_endsAt_68 : decode cX8_endsAt 68 = .ok (.iadd, 1) := by decide +kernel
theorem dX8_endsAt_69 : decode cX8_endsAt 69 = .ok (.istore 4, 2) := by decide +kernel
theorem dX8_endsAt_71 : decode cX8_endsAt 71 = .ok (.iinc 5 1, 3) := by decide +kernel
theorem dX8_endsAt_74 : decode cX8_endsAt 74 = .ok (.goto (-68), 3) := by decide +kernel
theorem dX8_endsAt_77 : decode cX8_endsAt 77 = .ok (.iload 4, 2) := by decide +kernel
theorem dX8_endsAt_79 : decode cX8_endsAt 79 = .ok (.ireturn, 1) := by decide +kernel
set_option maxRecDepth 20000 in
theorem ggX8_isEven_X8_endsAt : GoodIn wsX8_isEven wsX8_endsAt := goodIn_r _ [6, 7, 8, 9, 10, 11, 12, 13, 14, 15, 16, 17, 18, 19, 20, 21, 22, 23, 24, 25, 26, 27, 28, 29] (by decide +kernel) (by decide +kernel)
set_option maxRecDepth 20000 in
theorem gX8_isEven_X8_endsAt : GoodIn wsX8_isEven (wsV RX8 117 RX8 yX8_endsAt wsX8_endsAt) := goodIn_app (goodIn_of _ (by decide +kernel)) ggX8_isEven_X8_endsAt
theorem dX8_isEven_0 : decode cX8_isEven 0 = .ok (.iconst 1, 1) := by decide +kernel
theorem dX8_isEven_1 : decode cX8_isEven 1 = .ok (.istore_n 3, 1) := by decide +kernel
theorem dX8_isEven_2 : decode cX8_isEven 2 = .ok (.iconst 0, 1) := by decide +kernel
theorem dX8_isEven_3 : decode cX8_isEven 3 = .ok (.istore 4, 2) := by decide +kernel
theorem dX8_isEven_5 : decode cX8_isEven 5 = .ok (.iload 4, 2) := by decide +kernel
theorem dX8_isEven_7 : decode cX8_isEven 7 = .ok (.aload_n 0, 1) := by decide +kernel
theorem dX8_isEven_8 : decode cX8_isEven 8 = .ok (.getfield 7, 3) := by decide +kernel
theorem dX8_isEven_11 : decode cX8_isEven 11 = .ok (.if_icmp .ge 31, 3) := by decide +kernel
theorem dX8_isEven_14 : decode cX8_isEven 14 = .ok (.iload_n 3, 1) := by decide +kernel
theorem dX8_isEven_15 : decode cX8_isEven 15 = .ok (.ifCond .eq 19, 3) := by decide +kernel
theorem dX8_isEven_18 : decode cX8_isEven 18 = .ok (.aload_n 0, 1) := by decide +kernel
theorem dX8_isEven_19 : decode cX8_isEven 19 = .ok (.lload_n 1, 1) := by decide +kernel
theorem dX8_isEven_20 : decode cX8_isEven 20 = .ok (.iload 4, 2) := by decide +kernel
theorem dX8_isEven_22 : decode cX8_isEven 22 = .ok (.invokevirtual 117, 3) := by decide +kernel
theorem dX8_isEven_25 : decode cX8_isEven 25 = .ok (.iconst 2, 1) := by decide +kernel
theorem dX8_isEven_26 : decode cX8_isEven 26 = .ok (.irem, 1) := by decide +kernel
theorem dX8_isEven_27 : decode cX8_isEven 27 = .ok (.ifCond .ne 7, 3) := by decide +kernel
theorem dX8_isEven_30 : decode cX8_isEven 30 = .ok (.iconst 1, 1) := by decide +kernel
theorem dX8_isEven_31 : decode cX8_isEven 31 = .ok (.goto 4, 3) := by decide +kernel
theorem dX8_isEven_34 : decode cX8_isEven 34 = .ok (.iconst 0, 1) := by decide +kernel
theorem dX8_isEven_35 : decode cX8_isEven 35 = .ok (.istore_n 3, 1) := by decide +kernel
theorem dX8_isEven_36 : decode cX8_isEven 36 = .ok (.iinc 4 1, 3) := by decide +kernel
theorem dX8_isEven_39 : decode cX8_isEven 39 = .ok (.goto (-34), 3) := by decide +kernel
theorem dX8_isEven_42 : decode cX8_isEven 42 = .ok (.iload_n 3, 1) := by decide +kernel
theorem dX8_isEven_43 : decode cX8_isEven 43 = .ok (.ireturn, 1) := by decide +kernel
set_option maxRecDepth 20000 in
theorem ggX8_isRing_X8_endsAt : GoodIn wsX8_isRing wsX8_endsAt := goodIn_r _ [7, 2, 8, 9, 23, 24, 25, 26, 27, 28, 29, 30, 31, 32, 33, 34, 35, 36, 37, 38, 39, 40, 41, 42] (by decide +kernel) (by decide +kernel)
set_option maxRecDepth 20000 in
theorem gX8_isRing_X8_endsAt : GoodIn wsX8_isRing (wsV RX8 117 RX8 yX8_endsAt wsX8_endsAt) := goodIn_app (goodIn_of _ (by decide +kernel)) ggX8_isRing_X8_endsAt
set_option maxRecDepth 20000 in
theorem ggX8_isRing_X8_beginGroups : GoodIn wsX8_isRing wsX8_beginGroups := goodIn_r _ [13, 14, 15, 16, 23, 24, 25, 26, 27, 28, 29, 30, 31, 32, 33, 34, 35, 36, 37, 38, 39, 40, 41, 42] (by decide +kernel) (by decide +kernel)
set_option maxRecDepth 20000 in
theorem gX8_isRing_X8_beginGroups : GoodIn wsX8_isRing (wsV RX8 67 RX8 yX8_beginGroups wsX8_beginGroups) := goodIn_app (goodIn_of _ (by decide +kernel)) ggX8_isRing_X8_beginGroups
set_option maxRecDepth 20000 in
theorem ggX8_isRing_X8_joins : GoodIn wsX8_isRing wsX8_joins := goodIn_r _ [20, 8, 9, 15, 21, 14, 16, 22, 1, 23, 24, 25, 26, 27, 28, 29, 30, 31, 32, 33, 34, 35, 36, 37, 38, 39, 40, 41, 42] (by decide +kernel) (by decide +kernel)
set_option maxRecDepth 20000 in
theorem gX8_isRing_X8_joins : GoodIn wsX8_isRing (wsV RX8 70 RX8 yX8_joins wsX8_joins) := goodIn_app (goodIn_of _ (by decide +kernel)) ggX8_isRing_X8_joins
theorem dX8_isRing_0 : decode cX8_isRing 0 = .ok (.lload_n 1, 1) := by decide +kernel
theorem dX8_isRing_1 : decode cX8_isRing 1 = .ok (.lconst 0, 1) := by decide +kernel
theorem dX8_isRing_2 : decode cX8_isRing 2 = .ok (.lcmp, 1) := by decide +kernel
theorem dX8_isRing_3 : decode cX8_isRing 3 = .ok (.ifCond .ne 5, 3) := by decide +kernel
theorem dX8_isRing_6 : decode cX8_isRing 6 = .ok (.iconst 0, 1) := by decide +kernel
theorem dX8_isRing_7 : decode cX8_isRing 7 = .ok (.ireturn, 1) := by decide +kernel
theorem dX8_isRing_8 : decode cX8_isRing 8 = .ok (.iconst 1, 1) := by decide +kernel
theorem dX8_isRing_9 : decode cX8_isRing 9 = .ok (.istore_n 3, 1) := by decide +kernel
theorem dX8_isRing_10 : decode cX8_isRing 10 = .ok (.iconst 0, 1) := by decide +kernel
theorem dX8_isRing_11 : decode cX8_isRing 11 = .ok (.istore 4, 2) := by decide +kernel
theorem dX8_isRing_13 : decode cX8_isRing 13 = .ok (.iload 4, 2) := by decide +kernel
theorem dX8_isRing_15 : decode cX8_isRing 15 = .ok (.aload_n 0, 1) := by decide +kernel
theorem dX8_isRing_16 : decode cX8_isRing 16 = .ok (.getfield 7, 3) := by decide +kernel
theorem dX8_isRing_19 : decode cX8_isRing 19 = .ok (.if_icmp .ge 30, 3) := by decide +kernel
theorem dX8_isRing_22 : decode cX8_isRing 22 = .ok (.iload_n 3, 1) := by decide +kernel
theorem dX8_isRing_23 : decode cX8_isRing 23 = .ok (.ifCond .eq 18, 3) := by decide +kernel
theorem dX8_isRing_26 : decode cX8_isRing 26 = .ok (.aload_n 0, 1) := by decide +kernel
theorem dX8_isRing_27 : decode cX8_isRing 27 = .ok (.lload_n 1, 1) := by decide +kernel
theorem dX8_isRing_28 : decode cX8_isRing 28 = .ok (.iload 4, 2) := by decide +kernel
theorem dX8_isRing_30 : decode cX8_isRing 30 = .ok (.invokevirtual 117, 3) := by decide +kernel
theorem dX8_isRing_33 : decode cX8_isRing 33 = .ok (.iconst 2, 1) := by decide +kernel
theorem dX8_isRing_34 : decode cX8_isRing 34 = .ok (.if_icmp .gt 7, 3) := by decide +kernel
theorem dX8_isRing_37 : decode cX8_isRing 37 = .ok (.iconst 1, 1) := by decide +kernel
theorem dX8_isRing_38 : decode cX8_isRing 38 = .ok (.goto 4, 3) := by decide +kernel
theorem dX8_isRing_41 : decode cX8_isRing 41 = .ok (.iconst 0, 1) := by decide +kernel
theorem dX8_isRing_42 : decode cX8_isRing 42 = .ok (.istore_n 3, 1) := by decide +kernel
theorem dX8_isRing_43 : decode cX8_isRing 43 = .ok (.iinc 4 1, 3) := by decide +kernel
theorem dX8_isRing_46 : decode cX8_isRing 46 = .ok (.goto (-33), 3) := by decide +kernel
theorem dX8_isRing_49 : decode cX8_isRing 49 = .ok (.iconst 0, 1) := by decide +kernel
theorem dX8_isRing_50 : decode cX8_isRing 50 = .ok (.istore 4, 2) := by decide +kernel
theorem dX8_isRing_52 : decode cX8_isRing 52 = .ok (.iconst 0, 1) := by decide +kernel
theorem dX8_isRing_53 : decode cX8_isRing 53 = .ok (.istore 5, 2) := by decide +kernel
theorem dX8_isRing_55 : decode cX8_isRing 55 = .ok (.iload 5, 2) := by decide +kernel
theorem dX8_isRing_57 : decode cX8_isRing 57 = .ok (.aload_n 0, 1) := by decide +kernel
theorem dX8_isRing_58 : decode cX8_isRing 58 = .ok (.getfield 61, 3) := by decide +kernel
theorem dX8_isRing_61 : decode cX8_isRing 61 = .ok (.if_icmp .ge 21, 3) := by decide +kernel
theorem dX8_isRing_64 : decode cX8_isRing 64 = .ok (.iload 4, 2) := by decide +kernel
theorem dX8_isRing_66 : decode cX8_isRing 66 = .ok (.lload_n 1, 1) := by decide +kernel
theorem dX8_isRing_67 : decode cX8_isRing 67 = .ok (.iload 5, 2) := by decide +kernel
theorem dX8_isRing_69 : decode cX8_isRing 69 = .ok (.lshr, 1) := by decide +kernel
theorem dX8_isRing_70 : decode cX8_isRing 70 = .ok (.lconst 1, 1) := by decide +kernel
theorem dX8_isRing_71 : decode cX8_isRing 71 = .ok (.land, 1) := by decide +kernel
theorem dX8_isRing_72 : decode cX8_isRing 72 = .ok (.l2i, 1) := by decide +kernel
theorem dX8_isRing_73 : decode cX8_isRing 73 = .ok (.iadd, 1) := by decide +kernel
theorem dX8_isRing_74 : decode cX8_isRing 74 = .ok (.istore 4, 2) := by decide +kernel
theorem dX8_isRing_76 : decode cX8_isRing 76 = .ok (.iinc 5 1, 3) := by decide +kernel
theorem dX8_isRing_79 : decode cX8_isRing 79 = .ok (.goto (-24), 3) := by decide +kernel
theorem dX8_isRing_82 : decode cX8_isRing 82 = .ok (.aload_n 0, 1) := by decide +kernel
theorem dX8_isRing_83 : decode cX8_isRing 83 = .ok (.invokevirtual 67, 3) := by decide +kernel
theorem dX8_isRing_86 : decode cX8_isRing 86 = .ok (.iconst 0, 1) := by decide +kernel
theorem dX8_isRing_87 : decode cX8_isRing 87 = .ok (.istore 5, 2) := by decide +kernel
theorem dX8_isRing_89 : decode cX8_isRing 89 = .ok (.iconst 0, 1) := by decide +kernel
theorem dX8_isRing_90 : decode cX8_isRing 90 = .ok (.istore 6, 2) := by decide +kernel
theorem dX8_isRing_92 : decode cX8_isRing 92 = .ok (.iload 6, 2) := by decide +kernel
theorem dX8_isRing_94 : decode cX8_isRing 94 = .ok (.aload_n 0, 1) := by decide +kernel
theorem dX8_isRing_95 : decode cX8_isRing 95 = .ok (.getfield 61, 3) := by decide +kernel
theorem dX8_isRing_98 : decode cX8_isRing 98 = .ok (.if_icmp .ge 39, 3) := by decide +kernel
theorem dX8_isRing_101 : decode cX8_isRing 101 = .ok (.lload_n 1, 1) := by decide +kernel
theorem dX8_isRing_102 : decode cX8_isRing 102 = .ok (.iload 6, 2) := by decide +kernel
theorem dX8_isRing_104 : decode cX8_isRing 104 = .ok (.lshr, 1) := by decide +kernel
theorem dX8_isRing_105 : decode cX8_isRing 105 = .ok (.lconst 1, 1) := by decide +kernel
theorem dX8_isRing_106 : decode cX8_isRing 106 = .ok (.land, 1) := by decide +kernel
theorem dX8_isRing_107 : decode cX8_isRing 107 = .ok (.lconst 1, 1) := by decide +kernel
theorem dX8_isRing_108 : decode cX8_isRing 108 = .ok (.lcmp, 1) := by decide +kernel
theorem dX8_isRing_109 : decode cX8_isRing 109 = .ok (.ifCond .ne 22, 3) := by decide +kernel
theorem dX8_isRing_112 : decode cX8_isRing 112 = .ok (.iload 5, 2) := by decide +kernel
theorem dX8_isRing_114 : decode cX8_isRing 114 = .ok (.aload_n 0, 1) := by decide +kernel
theorem dX8_isRing_115 : decode cX8_isRing 115 = .ok (.iload 6, 2) := by decide +kernel
theorem dX8_isRing_117 : decode cX8_isRing 117 = .ok (.invokevirtual 70, 3) := by decide +kernel
theorem dX8_isRing_120 : decode cX8_isRing 120 = .ok (.ifCond .eq 7, 3) := by decide +kernel
theorem dX8_isRing_123 : decode cX8_isRing 123 = .ok (.iconst 1, 1) := by decide +kernel
theorem dX8_isRing_124 : decode cX8_isRing 124 = .ok (.goto 4, 3) := by decide +kernel
theorem dX8_isRing_127 : decode cX8_isRing 127 = .ok (.iconst 0, 1) := by decide +kernel
theorem dX8_isRing_128 : decode cX8_isRing 128 = .ok (.iadd, 1) := by decide +kernel
theorem dX8_isRing_129 : decode cX8_isRing 129 = .ok (.istore 5, 2) := by decide +kernel
theorem dX8_isRing_131 : decode cX8_isRing 131 = .ok (.iinc 6 1, 3) := by decide +kernel
theorem dX8_isRing_134 : decode cX8_isRing 134 = .ok (.goto (-42), 3) := by decide +kernel
theorem dX8_isRing_137 : decode cX8_isRing 137 = .ok (.iload_n 3, 1) := by decide +kernel
theorem dX8_isRing_138 : decode cX8_isRing 138 = .ok (.ifCond .eq 16, 3) := by decide +kernel
theorem dX8_isRing_141 : decode cX8_isRing 141 = .ok (.iload 5, 2) := by decide +kernel
theorem dX8_isRing_143 : decode cX8_isRing 143 = .ok (.iload 4, 2) := by decide +kernel
theorem dX8_isRing_145 : decode cX8_isRing 145 = .ok (.iconst 1, 1) := by decide +kernel
theorem dX8_isRing_146 : decode cX8_isRing 146 = .ok (.isub, 1) := by decide +kernel
theorem dX8_isRing_147 : decode cX8_isRing 147 = .ok (.if_icmp .ne 7, 3) := by decide +kernel
theorem dX8_isRing_150 : decode cX8_isRing 150 = .ok (.iconst 1, 1) := by decide +kernel
theorem dX8_isRing_151 : decode cX8_isRing 151 = .ok (.goto 4, 3) := by decide +kernel
theorem dX8_isRing_154 : decode cX8_isRing 154 = .ok (.iconst 0, 1) := by decide +kernel
theorem dX8_isRing_155 : decode cX8_isRing 155 = .ok (.ireturn, 1) := by decide +kernel
set_option maxRecDepth 20000 in
theorem ggX8_isCycle_X8_isSet : GoodIn wsX8_isCycle wsX8_isSet := goodIn_r _ [5, 6, 40, 41, 42, 43, 44, 45, 46, 47, 48, 49, 50, 51, 52, 53, 54, 55, 56, 57, 58, 59] (by decide +kernel) (by decide +kernel)
set_option maxRecDepth 20000 in
theorem gX8_isCycle_X8_isSet : GoodIn wsX8_isCycle (wsV RX8 89 RX8 yX8_isSet wsX8_isSet) := goodIn_app (goodIn_of _ (by decide +kernel)) ggX8_isCycle_X8_isSet
set_option maxRecDepth 20000 in
theorem ggX8_isCycle_X8_throwing : GoodIn wsX8_isCycle wsX8_throwing := goodIn_r _ [10, 11, 40, 41, 42, 43, 44, 45, 46, 47, 48, 49, 50, 51, 52, 53, 54, 55, 56, 57, 58, 59] (by decide +kernel) (by decide +kernel)
set_option maxRecDepth 20000 in
theorem gX8_isCycle_X8_throwing : GoodIn wsX8_isCycle (wsV RX8 78 RX8 yX8_throwing wsX8_throwing) := goodIn_app (goodIn_of _ (by decide +kernel)) ggX8_isCycle_X8_throwing
set_option maxRecDepth 20000 in
theorem ggX8_isCycle_X8_isEven : GoodIn wsX8_isCycle wsX8_isEven := goodIn_r _ [15, 16, 17, 18, 19, 4, 20, 6, 21, 22, 40, 41, 42, 43, 44, 45, 46, 47, 48, 49, 50, 51, 52, 53, 54, 55, 56, 57, 58, 59] (by decide +kernel) (by decide +kernel)
set_option maxRecDepth 20000 in
theorem gX8_isCycle_X8_isEven : GoodIn wsX8_isCycle (wsV RX8 121 RX8 yX8_isEven wsX8_isEven) := goodIn_app (goodIn_of _ (by decide +kernel)) ggX8_isCycle_X8_isEven
set_option maxRecDepth 20000 in
theorem ggX8_isCycle_X8_isRing : GoodIn wsX8_isCycle wsX8_isRing := goodIn_r _ [26, 16, 6, 17, 18, 19, 4, 20, 21, 22, 27, 28, 29, 30, 31, 32, 33, 34, 35, 36, 37, 38, 39, 40, 41, 42, 43, 44, 45, 46, 47, 48, 49, 50, 51, 52, 53, 54, 55, 56, 57, 58, 59] (by decide +kernel) (by decide +kernel)
set_option maxRecDepth 20000 in
theorem gX8_isCycle_X8_isRing : GoodIn wsX8_isCycle (wsV RX8 124 RX8 yX8_isRing wsX8_isRing) := goodIn_app (goodIn_of _ (by decide +kernel)) ggX8_isCycle_X8_isRing
theorem dX8_isCycle_0 : decode cX8_isCycle 0 = .ok (.aload_n 0, 1) := by decide +kernel
theorem dX8_isCycle_1 : decode cX8_isCycle 1 = .ok (.aload_n 0, 1) := by decide +kernel
theorem dX8_isCycle_2 : decode cX8_isCycle 2 = .ok (.lload_n 1, 1) := by decide +kernel
theorem dX8_isCycle_3 : decode cX8_isCycle 3 = .ok (.invokevirtual 89, 3) := by decide +kernel
theorem dX8_isCycle_6 : decode cX8_isCycle 6 = .ok (.ifCond .ne 7, 3) := by decide +kernel
theorem dX8_isCycle_9 : decode cX8_isCycle 9 = .ok (.iconst 1, 1) := by decide +kernel
theorem dX8_isCycle_10 : decode cX8_isCycle 10 = .ok (.goto 4, 3) := by decide +kernel
theorem dX8_isCycle_13 : decode cX8_isCycle 13 = .ok (.iconst 0, 1) := by decide +kernel
theorem dX8_isCycle_14 : decode cX8_isCycle 14 = .ok (.iconst 0, 1) := by decide +kernel
theorem dX8_isCycle_15 : decode cX8_isCycle 15 = .ok (.invokevirtual 78, 3) := by decide +kernel
theorem dX8_isCycle_18 : decode cX8_isCycle 18 = .ok (.ifCond .eq 5, 3) := by decide +kernel
theorem dX8_isCycle_21 : decode cX8_isCycle 21 = .ok (.iconst 0, 1) := by decide +kernel
theorem dX8_isCycle_22 : decode cX8_isCycle 22 = .ok (.ireturn, 1) := by decide +kernel
theorem dX8_isCycle_23 : decode cX8_isCycle 23 = .ok (.aload_n 0, 1) := by decide +kernel
theorem dX8_isCycle_24 : decode cX8_isCycle 24 = .ok (.lload_n 1, 1) := by decide +kernel
theorem dX8_isCycle_25 : decode cX8_isCycle 25 = .ok (.invokevirtual 121, 3) := by decide +kernel
theorem dX8_isCycle_28 : decode cX8_isCycle 28 = .ok (.ifCond .ne 7, 3) := by decide +kernel
theorem dX8_isCycle_31 : decode cX8_isCycle 31 = .ok (.iconst 0, 1) := by decide +kernel
theorem dX8_isCycle_32 : decode cX8_isCycle 32 = .ok (.goto 16, 3) := by decide +kernel
theorem dX8_isCycle_35 : decode cX8_isCycle 35 = .ok (.aload_n 0, 1) := by decide +kernel
theorem dX8_isCycle_36 : decode cX8_isCycle 36 = .ok (.lload_n 1, 1) := by decide +kernel
theorem dX8_isCycle_37 : decode cX8_isCycle 37 = .ok (.invokevirtual 124, 3) := by decide +kernel
theorem dX8_isCycle_40 : decode cX8_isCycle 40 = .ok (.ifCond .eq 7, 3) := by decide +kernel
theorem dX8_isCycle_43 : decode cX8_isCycle 43 = .ok (.iconst 2, 1) := by decide +kernel
theorem dX8_isCycle_44 : decode cX8_isCycle 44 = .ok (.goto 4, 3) := by decide +kernel
theorem dX8_isCycle_47 : decode cX8_isCycle 47 = .ok (.iconst 1, 1) := by decide +kernel
theorem dX8_isCycle_48 : decode cX8_isCycle 48 = .ok (.ireturn, 1) := by decide +kernel
set_option maxRecDepth 20000 in
theorem ggX8_through_X8_throwing : GoodIn wsX8_through wsX8_throwing := goodIn_r _ [9, 10, 44, 45, 46, 47, 48, 49, 50, 51, 52, 53, 54, 55, 56, 57, 58, 59, 60, 61, 62, 63] (by decide +kernel) (by decide +kernel)
set_option maxRecDepth 20000 in
theorem gX8_through_X8_throwing : GoodIn wsX8_through (wsV RX8 78 RX8 yX8_throwing wsX8_throwing) := goodIn_app (goodIn_of _ (by decide +kernel)) ggX8_through_X8_throwing
set_option maxRecDepth 20000 in
theorem ggX8_through_X8_spread : GoodIn wsX8_through wsX8_spread := goodIn_r _ [14, 3, 15, 16, 4, 17, 18, 19, 8, 20, 1, 21, 22, 23, 24, 25, 26, 27, 28, 29, 30, 31, 32, 33, 34, 35, 36, 37, 38, 39, 40, 41, 42, 43, 44, 45, 46, 47, 48, 49, 50, 51, 52, 53, 54, 55, 56, 57, 58, 59, 60, 61, 62, 63] (by decide +kernel) (by decide +kernel)
set_option maxRecDepth 20000 in
theorem gX8_through_X8_spread : GoodIn wsX8_through (wsV RX8 127 RX8 yX8_spread wsX8_spread) := goodIn_app (goodIn_of _ (by decide +kernel)) ggX8_through_X8_spread
theorem dX8_through_0 : decode cX8_through 0 = .ok (.aload_n 0, 1) := by decide +kernel
theorem dX8_through_1 : decode cX8_through 1 = .ok (.iload_n 1, 1) := by decide +kernel
theorem dX8_through_2 : decode cX8_through 2 = .ok (.ifCond .lt 11, 3) := by decide +kernel
theorem dX8_through_5 : decode cX8_through 5 = .ok (.iload_n 1, 1) := by decide +kernel
theorem dX8_through_6 : decode cX8_through 6 = .ok (.aload_n 0, 1) := by decide +kernel
theorem dX8_through_7 : decode cX8_through 7 = .ok (.getfield 61, 3) := by decide +kernel
theorem dX8_through_10 : decode cX8_through 10 = .ok (.if_icmp .lt 7, 3) := by decide +kernel
theorem dX8_through_13 : decode cX8_through 13 = .ok (.iconst 1, 1) := by decide +kernel
theorem dX8_through_14 : decode cX8_through 14 = .ok (.goto 4, 3) := by decide +kernel
theorem dX8_through_17 : decode cX8_through 17 = .ok (.iconst 0, 1) := by decide +kernel
theorem dX8_through_18 : decode cX8_through 18 = .ok (.iconst 0, 1) := by decide +kernel
theorem dX8_through_19 : decode cX8_through 19 = .ok (.invokevirtual 78, 3) := by decide +kernel
theorem dX8_through_22 : decode cX8_through 22 = .ok (.ifCond .eq 5, 3) := by decide +kernel
theorem dX8_through_25 : decode cX8_through 25 = .ok (.lconst 0, 1) := by decide +kernel
theorem dX8_through_26 : decode cX8_through 26 = .ok (.lreturn, 1) := by decide +kernel
theorem dX8_through_27 : decode cX8_through 27 = .ok (.aload_n 0, 1) := by decide +kernel
theorem dX8_through_28 : decode cX8_through 28 = .ok (.invokevirtual 127, 3) := by decide +kernel
theorem dX8_through_31 : decode cX8_through 31 = .ok (.istore_n 2, 1) := by decide +kernel
theorem dX8_through_32 : decode cX8_through 32 = .ok (.ldc2_w 111, 3) := by decide +kernel
theorem dX8_through_35 : decode cX8_through 35 = .ok (.lstore_n 3, 1) := by decide +kernel
theorem dX8_through_36 : decode cX8_through 36 = .ok (.iconst 1, 1) := by decide +kernel
theorem dX8_through_37 : decode cX8_through 37 = .ok (.istore 5, 2) := by decide +kernel
theorem dX8_through_39 : decode cX8_through 39 = .ok (.iload 5, 2) := by decide +kernel
theorem dX8_through_41 : decode cX8_through 41 = .ok (.iload_n 2, 1) := by decide +kernel
theorem dX8_through_42 : decode cX8_through 42 = .ok (.if_icmp .ge 51, 3) := by decide +kernel
theorem dX8_through_45 : decode cX8_through 45 = .ok (.aload_n 0, 1) := by decide +kernel
theorem dX8_through_46 : decode cX8_through 46 = .ok (.getfield 39, 3) := by decide +kernel
theorem dX8_through_49 : decode cX8_through 49 = .ok (.iload 5, 2) := by decide +kernel
theorem dX8_through_51 : decode cX8_through 51 = .ok (.laload, 1) := by decide +kernel
theorem dX8_through_52 : decode cX8_through 52 = .ok (.iload_n 1, 1) := by decide +kernel
theorem dX8_through_53 : decode cX8_through 53 = .ok (.lshr, 1) := by decide +kernel
theorem dX8_through_54 : decode cX8_through 54 = .ok (.lconst 1, 1) := by decide +kernel
theorem dX8_through_55 : decode cX8_through 55 = .ok (.land, 1) := by decide +kernel
theorem dX8_through_56 : decode cX8_through 56 = .ok (.lconst 1, 1) := by decide +kernel
theorem dX8_through_57 : decode cX8_through 57 = .ok (.lcmp, 1) := by decide +kernel
theorem dX8_through_58 : decode cX8_through 58 = .ok (.ifCond .ne 29, 3) := by decide +kernel
theorem dX8_through_61 : decode cX8_through 61 = .ok (.lload_n 3, 1) := by decide +kernel
theorem dX8_through_62 : decode cX8_through 62 = .ok (.lconst 0, 1) := by decide +kernel
theorem dX8_through_63 : decode cX8_through 63 = .ok (.lcmp, 1) := by decide +kernel
theorem dX8_through_64 : decode cX8_through 64 = .ok (.ifCond .lt 15, 3) := by decide +kernel
theorem dX8_through_67 : decode cX8_through 67 = .ok (.aload_n 0, 1) := by decide +kernel
theorem dX8_through_68 : decode cX8_through 68 = .ok (.getfield 42, 3) := by decide +kernel
theorem dX8_through_71 : decode cX8_through 71 = .ok (.iload 5, 2) := by decide +kernel
theorem dX8_through_73 : decode cX8_through 73 = .ok (.laload, 1) := by decide +kernel
theorem dX8_through_74 : decode cX8_through 74 = .ok (.lload_n 3, 1) := by decide +kernel
theorem dX8_through_75 : decode cX8_through 75 = .ok (.lcmp, 1) := by decide +kernel
theorem dX8_through_76 : decode cX8_through 76 = .ok (.ifCond .ge 11, 3) := by decide +kernel
theorem dX8_through_79 : decode cX8_through 79 = .ok (.aload_n 0, 1) := by decide +kernel
theorem dX8_through_80 : decode cX8_through 80 = .ok (.getfield 42, 3) := by decide +kernel
theorem dX8_through_83 : decode cX8_through 83 = .ok (.iload 5, 2) := by decide +kernel
theorem dX8_through_85 : decode cX8_through 85 = .ok (.laload, 1) := by decide +kernel
theorem dX8_through_86 : decode cX8_through 86 = .ok (.lstore_n 3, 1) := by decide +kernel
theorem dX8_through_87 : decode cX8_through 87 = .ok (.iinc 5 1, 3) := by decide +kernel
theorem dX8_through_90 : decode cX8_through 90 = .ok (.goto (-51), 3) := by decide +kernel
theorem dX8_through_93 : decode cX8_through 93 = .ok (.lload_n 3, 1) := by decide +kernel
theorem dX8_through_94 : decode cX8_through 94 = .ok (.lreturn, 1) := by decide +kernel
theorem dX8_rest_0 : decode cX8_rest 0 = .ok (.lload_n 1, 1) := by decide +kernel
theorem dX8_rest_1 : decode cX8_rest 1 = .ok (.lstore_n 3, 1) := by decide +kernel
theorem dX8_rest_2 : decode cX8_rest 2 = .ok (.iconst 0, 1) := by decide +kernel
theorem dX8_rest_3 : decode cX8_rest 3 = .ok (.istore 5, 2) := by decide +kernel
theorem dX8_rest_5 : decode cX8_rest 5 = .ok (.iload 5, 2) := by decide +kernel
theorem dX8_rest_7 : decode cX8_rest 7 = .ok (.aload_n 0, 1) := by decide +kernel
theorem dX8_rest_8 : decode cX8_rest 8 = .ok (.getfield 130, 3) := by decide +kernel
theorem dX8_rest_11 : decode cX8_rest 11 = .ok (.if_icmp .ge 33, 3) := by decide +kernel
theorem dX8_rest_14 : decode cX8_rest 14 = .ok (.lload_n 3, 1) := by decide +kernel
theorem dX8_rest_15 : decode cX8_rest 15 = .ok (.aload_n 0, 1) := by decide +kernel
theorem dX8_rest_16 : decode cX8_rest 16 = .ok (.getfield 45, 3) := by decide +kernel
theorem dX8_rest_19 : decode cX8_rest 19 = .ok (.iload 5, 2) := by decide +kernel
theorem dX8_rest_21 : decode cX8_rest 21 = .ok (.laload, 1) := by decide +kernel
theorem dX8_rest_22 : decode cX8_rest 22 = .ok (.lxor, 1) := by decide +kernel
theorem dX8_rest_23 : decode cX8_rest 23 = .ok (.lload_n 3, 1) := by decide +kernel
theorem dX8_rest_24 : decode cX8_rest 24 = .ok (.lcmp, 1) := by decide +kernel
theorem dX8_rest_25 : decode cX8_rest 25 = .ok (.ifCond .ge 13, 3) := by decide +kernel
theorem dX8_rest_28 : decode cX8_rest 28 = .ok (.lload_n 3, 1) := by decide +kernel
theorem dX8_rest_29 : decode cX8_rest 29 = .ok (.aload_n 0, 1) := by decide +kernel
theorem dX8_rest_30 : decode cX8_rest 30 = .ok (.getfield 45, 3) := by decide +kernel
theorem dX8_rest_33 : decode cX8_rest 33 = .ok (.iload 5, 2) := by decide +kernel
theorem dX8_rest_35 : decode cX8_rest 35 = .ok (.laload, 1) := by decide +kernel
theorem dX8_rest_36 : decode cX8_rest 36 = .ok (.lxor, 1) := by decide +kernel
theorem dX8_rest_37 : decode cX8_rest 37 = .ok (.lstore_n 3, 1) := by decide +kernel
theorem dX8_rest_38 : decode cX8_rest 38 = .ok (.iinc 5 1, 3) := by decide +kernel
theorem dX8_rest_41 : decode cX8_rest 41 = .ok (.goto (-36), 3) := by decide +kernel
theorem dX8_rest_44 : decode cX8_rest 44 = .ok (.lload_n 3, 1) := by decide +kernel
theorem dX8_rest_45 : decode cX8_rest 45 = .ok (.lreturn, 1) := by decide +kernel
set_option maxRecDepth 20000 in
theorem ggX8_take_X8_rest : GoodIn wsX8_take wsX8_rest := goodIn_r _ [7, 1, 2, 8, 9, 10, 11, 12, 13, 14, 15, 16, 17, 18, 19, 20, 21, 22, 23, 24, 25, 26, 27] (by decide +kernel) (by decide +kernel)
set_option maxRecDepth 20000 in
theorem gX8_take_X8_rest : GoodIn wsX8_take (wsV RX8 133 RX8 yX8_rest wsX8_rest) := goodIn_app (goodIn_of _ (by decide +kernel)) ggX8_take_X8_rest
theorem dX8_take_0 : decode cX8_take 0 = .ok (.aload_n 0, 1) := by decide +kernel
theorem dX8_take_1 : decode cX8_take 1 = .ok (.lload_n 1, 1) := by decide +kernel
theorem dX8_take_2 : decode cX8_take 2 = .ok (.invokevirtual 133, 3) := by decide +kernel
theorem dX8_take_5 : decode cX8_take 5 = .ok (.lstore_n 3, 1) := by decide +kernel
theorem dX8_take_6 : decode cX8_take 6 = .ok (.lload_n 3, 1) := by decide +kernel
theorem dX8_take_7 : decode cX8_take 7 = .ok (.lconst 0, 1) := by decide +kernel
theorem dX8_take_8 : decode cX8_take 8 = .ok (.lcmp, 1) := by decide +kernel
theorem dX8_take_9 : decode cX8_take 9 = .ok (.ifCond .ne 5, 3) := by decide +kernel
theorem dX8_take_12 : decode cX8_take 12 = .ok (.iconst 0, 1) := by decide +kernel
theorem dX8_take_13 : decode cX8_take 13 = .ok (.ireturn, 1) := by decide +kernel
theorem dX8_take_14 : decode cX8_take 14 = .ok (.aload_n 0, 1) := by decide +kernel
theorem dX8_take_15 : decode cX8_take 15 = .ok (.getfield 130, 3) := by decide +kernel
theorem dX8_take_18 : decode cX8_take 18 = .ok (.istore 5, 2) := by decide +kernel
theorem dX8_take_20 : decode cX8_take 20 = .ok (.iload 5, 2) := by decide +kernel
theorem dX8_take_22 : decode cX8_take 22 = .ok (.ifCond .le 39, 3) := by decide +kernel
theorem dX8_take_25 : decode cX8_take 25 = .ok (.aload_n 0, 1) := by decide +kernel
theorem dX8_take_26 : decode cX8_take 26 = .ok (.getfield 45, 3) := by decide +kernel
theorem dX8_take_29 : decode cX8_take 29 = .ok (.iload 5, 2) := by decide +kernel
theorem dX8_take_31 : decode cX8_take 31 = .ok (.iconst 1, 1) := by decide +kernel
theorem dX8_take_32 : decode cX8_take 32 = .ok (.isub, 1) := by decide +kernel
theorem dX8_take_33 : decode cX8_take 33 = .ok (.laload, 1) := by decide +kernel
theorem dX8_take_34 : decode cX8_take 34 = .ok (.lload_n 3, 1) := by decide +kernel
theorem dX8_take_35 : decode cX8_take 35 = .ok (.lcmp, 1) := by decide +kernel
theorem dX8_take_36 : decode cX8_take 36 = .ok (.ifCond .ge 25, 3) := by decide +kernel
theorem dX8_take_39 : decode cX8_take 39 = .ok (.aload_n 0, 1) := by decide +kernel
theorem dX8_take_40 : decode cX8_take 40 = .ok (.getfield 45, 3) := by decide +kernel
theorem dX8_take_43 : decode cX8_take 43 = .ok (.iload 5, 2) := by decide +kernel
theorem dX8_take_45 : decode cX8_take 45 = .ok (.aload_n 0, 1) := by decide +kernel
theorem dX8_take_46 : decode cX8_take 46 = .ok (.getfield 45, 3) := by decide +kernel
theorem dX8_take_49 : decode cX8_take 49 = .ok (.iload 5, 2) := by decide +kernel
theorem dX8_take_51 : decode cX8_take 51 = .ok (.iconst 1, 1) := by decide +kernel
theorem dX8_take_52 : decode cX8_take 52 = .ok (.isub, 1) := by decide +kernel
theorem dX8_take_53 : decode cX8_take 53 = .ok (.laload, 1) := by decide +kernel
theorem dX8_take_54 : decode cX8_take 54 = .ok (.lastore, 1) := by decide +kernel
theorem dX8_take_55 : decode cX8_take 55 = .ok (.iinc 5 (-1), 3) := by decide +kernel
theorem dX8_take_58 : decode cX8_take 58 = .ok (.goto (-38), 3) := by decide +kernel
theorem dX8_take_61 : decode cX8_take 61 = .ok (.aload_n 0, 1) := by decide +kernel
theorem dX8_take_62 : decode cX8_take 62 = .ok (.getfield 45, 3) := by decide +kernel
theorem dX8_take_65 : decode cX8_take 65 = .ok (.iload 5, 2) := by decide +kernel
theorem dX8_take_67 : decode cX8_take 67 = .ok (.lload_n 3, 1) := by decide +kernel
theorem dX8_take_68 : decode cX8_take 68 = .ok (.lastore, 1) := by decide +kernel
theorem dX8_take_69 : decode cX8_take 69 = .ok (.aload_n 0, 1) := by decide +kernel
theorem dX8_take_70 : decode cX8_take 70 = .ok (.dup, 1) := by decide +kernel
theorem dX8_take_71 : decode cX8_take 71 = .ok (.getfield 130, 3) := by decide +kernel
theorem dX8_take_74 : decode cX8_take 74 = .ok (.iconst 1, 1) := by decide +kernel
theorem dX8_take_75 : decode cX8_take 75 = .ok (.iadd, 1) := by decide +kernel
theorem dX8_take_76 : decode cX8_take 76 = .ok (.putfield 130, 3) := by decide +kernel
theorem dX8_take_79 : decode cX8_take 79 = .ok (.iconst 1, 1) := by decide +kernel
theorem dX8_take_80 : decode cX8_take 80 = .ok (.ireturn, 1) := by decide +kernel
set_option maxRecDepth 20000 in
theorem ggX8_basis_X8_dimension : GoodIn wsX8_basis wsX8_dimension := goodIn_r _ [7, 8, 9, 10, 11, 12, 6, 13, 14, 15, 16, 17, 18, 19, 20, 21, 22, 23, 24, 25, 26, 27, 28, 53, 54, 55, 56, 57, 58, 59, 60, 61, 62, 63, 64, 65, 66, 67, 68, 69, 70, 71, 72] (by decide +kernel) (by decide +kernel)
set_option maxRecDepth 20000 in
theorem gX8_basis_X8_dimension : GoodIn wsX8_basis (wsV RX8 86 RX8 yX8_dimension wsX8_dimension) := goodIn_app (goodIn_of _ (by decide +kernel)) ggX8_basis_X8_dimension
set_option maxRecDepth 20000 in
theorem ggX8_basis_X8_throwing : GoodIn wsX8_basis wsX8_throwing := goodIn_r _ [32, 33, 53, 54, 55, 56, 57, 58, 59, 60, 61, 62, 63, 64, 65, 66, 67, 68, 69, 70, 71, 72] (by decide +kernel) (by decide +kernel)
set_option maxRecDepth 20000 in
theorem gX8_basis_X8_throwing : GoodIn wsX8_basis (wsV RX8 78 RX8 yX8_throwing wsX8_throwing) := goodIn_app (goodIn_of _ (by decide +kernel)) ggX8_basis_X8_throwing
set_option maxRecDepth 20000 in
theorem ggX8_basis_X8_spread : GoodIn wsX8_basis wsX8_spread := goodIn_r _ [37, 38, 18, 27, 2, 3, 4, 5, 6, 7, 8, 9, 10, 11, 12, 13, 14, 15, 16, 17, 19, 20, 21, 22, 23, 24, 25, 26, 28, 39, 40, 41, 42, 43, 53, 54, 55, 56, 57, 58, 59, 60, 61, 62, 63, 64, 65, 66, 67, 68, 69, 70, 71, 72] (by decide +kernel) (by decide +kernel)
set_option maxRecDepth 20000 in
theorem gX8_basis_X8_spread : GoodIn wsX8_basis (wsV RX8 127 RX8 yX8_spread wsX8_spread) := goodIn_app (goodIn_of _ (by decide +kernel)) ggX8_basis_X8_spread
set_option maxRecDepth 20000 in
theorem ggX8_basis_X8_rest : GoodIn wsX8_basis wsX8_rest := goodIn_r _ [47, 1, 48, 53, 54, 55, 56, 57, 58, 59, 60, 61, 62, 63, 64, 65, 66, 67, 68, 69, 70, 71, 72] (by decide +kernel) (by decide +kernel)
set_option maxRecDepth 20000 in
theorem gX8_basis_X8_rest : GoodIn wsX8_basis (wsV RX8 133 RX8 yX8_rest wsX8_rest) := goodIn_app (goodIn_of _ (by decide +kernel)) ggX8_basis_X8_rest
set_option maxRecDepth 20000 in
theorem ggX8_basis_X8_take : GoodIn wsX8_basis wsX8_take := goodIn_r _ [52, 1, 48, 44, 45, 46, 6, 47, 53, 54, 55, 56, 57, 58, 59, 60, 61, 62, 63, 64, 65, 66, 67, 68, 69, 70, 71, 72] (by decide +kernel) (by decide +kernel)
set_option maxRecDepth 20000 in
theorem gX8_basis_X8_take : GoodIn wsX8_basis (wsV RX8 136 RX8 yX8_take wsX8_take) := goodIn_app (goodIn_of _ (by decide +kernel)) ggX8_basis_X8_take
theorem dX8_basis_0 : decode cX8_basis 0 = .ok (.aload_n 0, 1) := by decide +kernel
theorem dX8_basis_1 : decode cX8_basis 1 = .ok (.invokevirtual 86, 3) := by decide +kernel
theorem dX8_basis_4 : decode cX8_basis 4 = .ok (.istore_n 2, 1) := by decide +kernel
theorem dX8_basis_5 : decode cX8_basis 5 = .ok (.aload_n 0, 1) := by decide +kernel
theorem dX8_basis_6 : decode cX8_basis 6 = .ok (.iload_n 1, 1) := by decide +kernel
theorem dX8_basis_7 : decode cX8_basis 7 = .ok (.ifCond .lt 8, 3) := by decide +kernel
theorem dX8_basis_10 : decode cX8_basis 10 = .ok (.iload_n 1, 1) := by decide +kernel
theorem dX8_basis_11 : decode cX8_basis 11 = .ok (.iload_n 2, 1) := by decide +kernel
theorem dX8_basis_12 : decode cX8_basis 12 = .ok (.if_icmp .lt 7, 3) := by decide +kernel
theorem dX8_basis_15 : decode cX8_basis 15 = .ok (.iconst 1, 1) := by decide +kernel
theorem dX8_basis_16 : decode cX8_basis 16 = .ok (.goto 4, 3) := by decide +kernel
theorem dX8_basis_19 : decode cX8_basis 19 = .ok (.iconst 0, 1) := by decide +kernel
theorem dX8_basis_20 : decode cX8_basis 20 = .ok (.iconst 0, 1) := by decide +kernel
theorem dX8_basis_21 : decode cX8_basis 21 = .ok (.invokevirtual 78, 3) := by decide +kernel
theorem dX8_basis_24 : decode cX8_basis 24 = .ok (.ifCond .eq 5, 3) := by decide +kernel
theorem dX8_basis_27 : decode cX8_basis 27 = .ok (.lconst 0, 1) := by decide +kernel
theorem dX8_basis_28 : decode cX8_basis 28 = .ok (.lreturn, 1) := by decide +kernel
theorem dX8_basis_29 : decode cX8_basis 29 = .ok (.aload_n 0, 1) := by decide +kernel
theorem dX8_basis_30 : decode cX8_basis 30 = .ok (.invokevirtual 127, 3) := by decide +kernel
theorem dX8_basis_33 : decode cX8_basis 33 = .ok (.istore_n 3, 1) := by decide +kernel
theorem dX8_basis_34 : decode cX8_basis 34 = .ok (.aload_n 0, 1) := by decide +kernel
theorem dX8_basis_35 : decode cX8_basis 35 = .ok (.iconst 0, 1) := by decide +kernel
theorem dX8_basis_36 : decode cX8_basis 36 = .ok (.putfield 130, 3) := by decide +kernel
theorem dX8_basis_39 : decode cX8_basis 39 = .ok (.lconst 0, 1) := by decide +kernel
theorem dX8_basis_40 : decode cX8_basis 40 = .ok (.lstore 4, 2) := by decide +kernel
theorem dX8_basis_42 : decode cX8_basis 42 = .ok (.iconst 0, 1) := by decide +kernel
theorem dX8_basis_43 : decode cX8_basis 43 = .ok (.istore 6, 2) := by decide +kernel
theorem dX8_basis_45 : decode cX8_basis 45 = .ok (.iload 6, 2) := by decide +kernel
theorem dX8_basis_47 : decode cX8_basis 47 = .ok (.iload_n 1, 1) := by decide +kernel
theorem dX8_basis_48 : decode cX8_basis 48 = .ok (.if_icmp .gt 83, 3) := by decide +kernel
theorem dX8_basis_51 : decode cX8_basis 51 = .ok (.iconst (-1), 1) := by decide +kernel
theorem dX8_basis_52 : decode cX8_basis 52 = .ok (.istore 7, 2) := by decide +kernel
theorem dX8_basis_54 : decode cX8_basis 54 = .ok (.iconst 1, 1) := by decide +kernel
theorem dX8_basis_55 : decode cX8_basis 55 = .ok (.istore 8, 2) := by decide +kernel
theorem dX8_basis_57 : decode cX8_basis 57 = .ok (.iload 8, 2) := by decide +kernel
theorem dX8_basis_59 : decode cX8_basis 59 = .ok (.iload_n 3, 1) := by decide +kernel
theorem dX8_basis_60 : decode cX8_basis 60 = .ok (.if_icmp .ge 48, 3) := by decide +kernel
theorem dX8_basis_63 : decode cX8_basis 63 = .ok (.iload 7, 2) := by decide +kernel
theorem dX8_basis_65 : decode cX8_basis 65 = .ok (.ifCond .lt 21, 3) := by decide +kernel
theorem dX8_basis_68 : decode cX8_basis 68 = .ok (.aload_n 0, 1) := by decide +kernel
theorem dX8_basis_69 : decode cX8_basis 69 = .ok (.getfield 42, 3) := by decide +kernel
theorem dX8_basis_72 : decode cX8_basis 72 = .ok (.iload 8, 2) := by decide +kernel
theorem dX8_basis_74 : decode cX8_basis 74 = .ok (.laload, 1) := by decide +kernel
theorem dX8_basis_75 : decode cX8_basis 75 = .ok (.aload_n 0, 1) := by decide +kernel
theorem dX8_basis_76 : decode cX8_basis 76 = .ok (.getfield 42, 3) := by decide +kernel
theorem dX8_basis_79 : decode cX8_basis 79 = .ok (.iload 7, 2) := by decide +kernel
theorem dX8_basis_81 : decode cX8_basis 81 = .ok (.laload, 1) := by decide +kernel
theorem dX8_basis_82 : decode cX8_basis 82 = .ok (.lcmp, 1) := by decide +kernel
theorem dX8_basis_83 : decode cX8_basis 83 = .ok (.ifCond .ge 19, 3) := by decide +kernel
theorem dX8_basis_86 : decode cX8_basis 86 = .ok (.aload_n 0, 1) := by decide +kernel
theorem dX8_basis_87 : decode cX8_basis 87 = .ok (.iload 8, 2) := by decide +kernel
theorem dX8_basis_89 : decode cX8_basis 89 = .ok (.i2l, 1) := by decide +kernel
theorem dX8_basis_90 : decode cX8_basis 90 = .ok (.invokevirtual 133, 3) := by decide +kernel
theorem dX8_basis_93 : decode cX8_basis 93 = .ok (.lconst 0, 1) := by decide +kernel
theorem dX8_basis_94 : decode cX8_basis 94 = .ok (.lcmp, 1) := by decide +kernel
theorem dX8_basis_95 : decode cX8_basis 95 = .ok (.ifCond .eq 7, 3) := by decide +kernel
theorem dX8_basis_98 : decode cX8_basis 98 = .ok (.iload 8, 2) := by decide +kernel
theorem dX8_basis_100 : decode cX8_basis 100 = .ok (.istore 7, 2) := by decide +kernel
theorem dX8_basis_102 : decode cX8_basis 102 = .ok (.iinc 8 1, 3) := by decide +kernel
theorem dX8_basis_105 : decode cX8_basis 105 = .ok (.goto (-48), 3) := by decide +kernel
theorem dX8_basis_108 : decode cX8_basis 108 = .ok (.aload_n 0, 1) := by decide +kernel
theorem dX8_basis_109 : decode cX8_basis 109 = .ok (.getfield 42, 3) := by decide +kernel
theorem dX8_basis_112 : decode cX8_basis 112 = .ok (.iload 7, 2) := by decide +kernel
theorem dX8_basis_114 : decode cX8_basis 114 = .ok (.laload, 1) := by decide +kernel
theorem dX8_basis_115 : decode cX8_basis 115 = .ok (.lstore 4, 2) := by decide +kernel
theorem dX8_basis_117 : decode cX8_basis 117 = .ok (.aload_n 0, 1) := by decide +kernel
theorem dX8_basis_118 : decode cX8_basis 118 = .ok (.iload 7, 2) := by decide +kernel
theorem dX8_basis_120 : decode cX8_basis 120 = .ok (.i2l, 1) := by decide +kernel
theorem dX8_basis_121 : decode cX8_basis 121 = .ok (.invokevirtual 136, 3) := by decide +kernel
theorem dX8_basis_124 : decode cX8_basis 124 = .ok (.pop, 1) := by decide +kernel
theorem dX8_basis_125 : decode cX8_basis 125 = .ok (.iinc 6 1, 3) := by decide +kernel
theorem dX8_basis_128 : decode cX8_basis 128 = .ok (.goto (-83), 3) := by decide +kernel
theorem dX8_basis_131 : decode cX8_basis 131 = .ok (.lload 4, 2) := by decide +kernel
theorem dX8_basis_133 : decode cX8_basis 133 = .ok (.lreturn, 1) := by decide +kernel
theorem dX8_numberOf_0 : decode cX8_numberOf 0 = .ok (.iconst 0, 1) := by decide +kernel
theorem dX8_numberOf_1 : decode cX8_numberOf 1 = .ok (.istore_n 3, 1) := by decide +kernel
theorem dX8_numberOf_2 : decode cX8_numberOf 2 = .ok (.iconst 0, 1) := by decide +kernel
theorem dX8_numberOf_3 : decode cX8_numberOf 3 = .ok (.istore 4, 2) := by decide +kernel
theorem dX8_numberOf_5 : decode cX8_numberOf 5 = .ok (.iload 4, 2) := by decide +kernel
theorem dX8_numberOf_7 : decode cX8_numberOf 7 = .ok (.aload_n 0, 1) := by decide +kernel
theorem dX8_numberOf_8 : decode cX8_numberOf 8 = .ok (.getfield 64, 3) := by decide +kernel
theorem dX8_numberOf_11 : decode cX8_numberOf 11 = .ok (.if_icmp .ge 36, 3) := by decide +kernel
theorem dX8_numberOf_14 : decode cX8_numberOf 14 = .ok (.iload_n 3, 1) := by decide +kernel
theorem dX8_numberOf_15 : decode cX8_numberOf 15 = .ok (.lload_n 1, 1) := by decide +kernel
theorem dX8_numberOf_16 : decode cX8_numberOf 16 = .ok (.aload_n 0, 1) := by decide +kernel
theorem dX8_numberOf_17 : decode cX8_numberOf 17 = .ok (.getfield 36, 3) := by decide +kernel
theorem dX8_numberOf_20 : decode cX8_numberOf 20 = .ok (.iload 4, 2) := by decide +kernel
theorem dX8_numberOf_22 : decode cX8_numberOf 22 = .ok (.iaload, 1) := by decide +kernel
theorem dX8_numberOf_23 : decode cX8_numberOf 23 = .ok (.lshr, 1) := by decide +kernel
theorem dX8_numberOf_24 : decode cX8_numberOf 24 = .ok (.lconst 1, 1) := by decide +kernel
theorem dX8_numberOf_25 : decode cX8_numberOf 25 = .ok (.land, 1) := by decide +kernel
theorem dX8_numberOf_26 : decode cX8_numberOf 26 = .ok (.lconst 1, 1) := by decide +kernel
theorem dX8_numberOf_27 : decode cX8_numberOf 27 = .ok (.lcmp, 1) := by decide +kernel
theorem dX8_numberOf_28 : decode cX8_numberOf 28 = .ok (.ifCond .ne 10, 3) := by decide +kernel
theorem dX8_numberOf_31 : decode cX8_numberOf 31 = .ok (.iconst 1, 1) := by decide +kernel
theorem dX8_numberOf_32 : decode cX8_numberOf 32 = .ok (.iload 4, 2) := by decide +kernel
theorem dX8_numberOf_34 : decode cX8_numberOf 34 = .ok (.ishl, 1) := by decide +kernel
theorem dX8_numberOf_35 : decode cX8_numberOf 35 = .ok (.goto 4, 3) := by decide +kernel
theorem dX8_numberOf_38 : decode cX8_numberOf 38 = .ok (.iconst 0, 1) := by decide +kernel
theorem dX8_numberOf_39 : decode cX8_numberOf 39 = .ok (.ior, 1) := by decide +kernel
theorem dX8_numberOf_40 : decode cX8_numberOf 40 = .ok (.istore_n 3, 1) := by decide +kernel
theorem dX8_numberOf_41 : decode cX8_numberOf 41 = .ok (.iinc 4 1, 3) := by decide +kernel
theorem dX8_numberOf_44 : decode cX8_numberOf 44 = .ok (.goto (-39), 3) := by decide +kernel
theorem dX8_numberOf_47 : decode cX8_numberOf 47 = .ok (.iload_n 3, 1) := by decide +kernel
theorem dX8_numberOf_48 : decode cX8_numberOf 48 = .ok (.ireturn, 1) := by decide +kernel
set_option maxRecDepth 20000 in
theorem ggX8_belongs_X8_isSet : GoodIn wsX8_belongs wsX8_isSet := goodIn_r _ [7, 8, 69, 70, 71, 72, 73, 74, 75, 76, 77, 78, 79, 80, 81, 82, 83, 84, 85, 86, 87, 88] (by decide +kernel) (by decide +kernel)
set_option maxRecDepth 20000 in
theorem gX8_belongs_X8_isSet : GoodIn wsX8_belongs (wsV RX8 89 RX8 yX8_isSet wsX8_isSet) := goodIn_app (goodIn_of _ (by decide +kernel)) ggX8_belongs_X8_isSet
set_option maxRecDepth 20000 in
theorem ggX8_belongs_X8_throwing : GoodIn wsX8_belongs wsX8_throwing := goodIn_r _ [12, 13, 69, 70, 71, 72, 73, 74, 75, 76, 77, 78, 79, 80, 81, 82, 83, 84, 85, 86, 87, 88] (by decide +kernel) (by decide +kernel)
set_option maxRecDepth 20000 in
theorem gX8_belongs_X8_throwing : GoodIn wsX8_belongs (wsV RX8 78 RX8 yX8_throwing wsX8_throwing) := goodIn_app (goodIn_of _ (by decide +kernel)) ggX8_belongs_X8_throwing
set_option maxRecDepth 20000 in
theorem ggX8_belongs_X8_isEven : GoodIn wsX8_belongs wsX8_isEven := goodIn_r _ [17, 18, 19, 20, 21, 6, 22, 8, 23, 24, 69, 70, 71, 72, 73, 74, 75, 76, 77, 78, 79, 80, 81, 82, 83, 84, 85, 86, 87, 88] (by decide +kernel) (by decide +kernel)
set_option maxRecDepth 20000 in
theorem gX8_belongs_X8_isEven : GoodIn wsX8_belongs (wsV RX8 121 RX8 yX8_isEven wsX8_isEven) := goodIn_app (goodIn_of _ (by decide +kernel)) ggX8_belongs_X8_isEven
set_option maxRecDepth 20000 in
theorem ggX8_belongs_X8_spread : GoodIn wsX8_belongs wsX8_spread := goodIn_r _ [28, 29, 30, 31, 2, 32, 33, 34, 6, 35, 8, 18, 36, 37, 38, 39, 40, 41, 42, 43, 44, 45, 46, 47, 48, 49, 23, 24, 50, 51, 52, 53, 54, 55, 69, 70, 71, 72, 73, 74, 75, 76, 77, 78, 79, 80, 81, 82, 83, 84, 85, 86, 87, 88] (by decide +kernel) (by decide +kernel)
set_option maxRecDepth 20000 in
theorem gX8_belongs_X8_spread : GoodIn wsX8_belongs (wsV RX8 127 RX8 yX8_spread wsX8_spread) := goodIn_app (goodIn_of _ (by decide +kernel)) ggX8_belongs_X8_spread
set_option maxRecDepth 20000 in
theorem ggX8_belongs_X8_numberOf : GoodIn wsX8_belongs wsX8_numberOf := goodIn_r _ [59, 30, 50, 69, 70, 71, 72, 73, 74, 75, 76, 77, 78, 79, 80, 81, 82, 83, 84, 85, 86, 87, 88] (by decide +kernel) (by decide +kernel)
set_option maxRecDepth 20000 in
theorem gX8_belongs_X8_numberOf : GoodIn wsX8_belongs (wsV RX8 139 RX8 yX8_numberOf wsX8_numberOf) := goodIn_app (goodIn_of _ (by decide +kernel)) ggX8_belongs_X8_numberOf
set_option maxRecDepth 20000 in
theorem ggX8_belongs_X8_take : GoodIn wsX8_belongs wsX8_take := goodIn_r _ [63, 1, 64, 65, 66, 67, 6, 68, 69, 70, 71, 72, 73, 74, 75, 76, 77, 78, 79, 80, 81, 82, 83, 84, 85, 86, 87, 88] (by decide +kernel) (by decide +kernel)
set_option maxRecDepth 20000 in
theorem gX8_belongs_X8_take : GoodIn wsX8_belongs (wsV RX8 136 RX8 yX8_take wsX8_take) := goodIn_app (goodIn_of _ (by decide +kernel)) ggX8_belongs_X8_take
set_option maxRecDepth 20000 in
theorem ggX8_belongs_X8_rest : GoodIn wsX8_belongs wsX8_rest := goodIn_r _ [68, 1, 64, 69, 70, 71, 72, 73, 74, 75, 76, 77, 78, 79, 80, 81, 82, 83, 84, 85, 86, 87, 88] (by decide +kernel) (by decide +kernel)
set_option maxRecDepth 20000 in
theorem gX8_belongs_X8_rest : GoodIn wsX8_belongs (wsV RX8 133 RX8 yX8_rest wsX8_rest) := goodIn_app (goodIn_of _ (by decide +kernel)) ggX8_belongs_X8_rest
theorem dX8_belongs_0 : decode cX8_belongs 0 = .ok (.aload_n 0, 1) := by decide +kernel
theorem dX8_belongs_1 : decode cX8_belongs 1 = .ok (.aload_n 0, 1) := by decide +kernel
theorem dX8_belongs_2 : decode cX8_belongs 2 = .ok (.lload_n 1, 1) := by decide +kernel
theorem dX8_belongs_3 : decode cX8_belongs 3 = .ok (.invokevirtual 89, 3) := by decide +kernel
theorem dX8_belongs_6 : decode cX8_belongs 6 = .ok (.ifCond .ne 7, 3) := by decide +kernel
theorem dX8_belongs_9 : decode cX8_belongs 9 = .ok (.iconst 1, 1) := by decide +kernel
theorem dX8_belongs_10 : decode cX8_belongs 10 = .ok (.goto 4, 3) := by decide +kernel
theorem dX8_belongs_13 : decode cX8_belongs 13 = .ok (.iconst 0, 1) := by decide +kernel
theorem dX8_belongs_14 : decode cX8_belongs 14 = .ok (.iconst 0, 1) := by decide +kernel
theorem dX8_belongs_15 : decode cX8_belongs 15 = .ok (.invokevirtual 78, 3) := by decide +kernel
theorem dX8_belongs_18 : decode cX8_belongs 18 = .ok (.ifCond .eq 5, 3) := by decide +kernel
theorem dX8_belongs_21 : decode cX8_belongs 21 = .ok (.iconst 0, 1) := by decide +kernel
theorem dX8_belongs_22 : decode cX8_belongs 22 = .ok (.ireturn, 1) := by decide +kernel
theorem dX8_belongs_23 : decode cX8_belongs 23 = .ok (.lload_n 1, 1) := by decide +kernel
theorem dX8_belongs_24 : decode cX8_belongs 24 = .ok (.lconst 0, 1) := by decide +kernel
theorem dX8_belongs_25 : decode cX8_belongs 25 = .ok (.lcmp, 1) := by decide +kernel
theorem dX8_belongs_26 : decode cX8_belongs 26 = .ok (.ifCond .eq 11, 3) := by decide +kernel
theorem dX8_belongs_29 : decode cX8_belongs 29 = .ok (.aload_n 0, 1) := by decide +kernel
theorem dX8_belongs_30 : decode cX8_belongs 30 = .ok (.lload_n 1, 1) := by decide +kernel
theorem dX8_belongs_31 : decode cX8_belongs 31 = .ok (.invokevirtual 121, 3) := by decide +kernel
theorem dX8_belongs_34 : decode cX8_belongs 34 = .ok (.ifCond .ne 5, 3) := by decide +kernel
theorem dX8_belongs_37 : decode cX8_belongs 37 = .ok (.iconst 0, 1) := by decide +kernel
theorem dX8_belongs_38 : decode cX8_belongs 38 = .ok (.ireturn, 1) := by decide +kernel
theorem dX8_belongs_39 : decode cX8_belongs 39 = .ok (.aload_n 0, 1) := by decide +kernel
theorem dX8_belongs_40 : decode cX8_belongs 40 = .ok (.invokevirtual 127, 3) := by decide +kernel
theorem dX8_belongs_43 : decode cX8_belongs 43 = .ok (.istore_n 3, 1) := by decide +kernel
theorem dX8_belongs_44 : decode cX8_belongs 44 = .ok (.aload_n 0, 1) := by decide +kernel
theorem dX8_belongs_45 : decode cX8_belongs 45 = .ok (.lload_n 1, 1) := by decide +kernel
theorem dX8_belongs_46 : decode cX8_belongs 46 = .ok (.invokevirtual 139, 3) := by decide +kernel
theorem dX8_belongs_49 : decode cX8_belongs 49 = .ok (.istore 4, 2) := by decide +kernel
theorem dX8_belongs_51 : decode cX8_belongs 51 = .ok (.aload_n 0, 1) := by decide +kernel
theorem dX8_belongs_52 : decode cX8_belongs 52 = .ok (.iconst 0, 1) := by decide +kernel
theorem dX8_belongs_53 : decode cX8_belongs 53 = .ok (.putfield 130, 3) := by decide +kernel
theorem dX8_belongs_56 : decode cX8_belongs 56 = .ok (.iconst 1, 1) := by decide +kernel
theorem dX8_belongs_57 : decode cX8_belongs 57 = .ok (.istore 5, 2) := by decide +kernel
theorem dX8_belongs_59 : decode cX8_belongs 59 = .ok (.iload 5, 2) := by decide +kernel
theorem dX8_belongs_61 : decode cX8_belongs 61 = .ok (.iload_n 3, 1) := by decide +kernel
theorem dX8_belongs_62 : decode cX8_belongs 62 = .ok (.if_icmp .ge 39, 3) := by decide +kernel
theorem dX8_belongs_65 : decode cX8_belongs 65 = .ok (.aload_n 0, 1) := by decide +kernel
theorem dX8_belongs_66 : decode cX8_belongs 66 = .ok (.getfield 42, 3) := by decide +kernel
theorem dX8_belongs_69 : decode cX8_belongs 69 = .ok (.iload 5, 2) := by decide +kernel
theorem dX8_belongs_71 : decode cX8_belongs 71 = .ok (.laload, 1) := by decide +kernel
theorem dX8_belongs_72 : decode cX8_belongs 72 = .ok (.aload_n 0, 1) := by decide +kernel
theorem dX8_belongs_73 : decode cX8_belongs 73 = .ok (.getfield 42, 3) := by decide +kernel
theorem dX8_belongs_76 : decode cX8_belongs 76 = .ok (.iload 4, 2) := by decide +kernel
theorem dX8_belongs_78 : decode cX8_belongs 78 = .ok (.laload, 1) := by decide +kernel
theorem dX8_belongs_79 : decode cX8_belongs 79 = .ok (.lcmp, 1) := by decide +kernel
theorem dX8_belongs_80 : decode cX8_belongs 80 = .ok (.ifCond .lt 6, 3) := by decide +kernel
theorem dX8_belongs_83 : decode cX8_belongs 83 = .ok (.goto 12, 3) := by decide +kernel
theorem dX8_belongs_86 : decode cX8_belongs 86 = .ok (.aload_n 0, 1) := by decide +kernel
theorem dX8_belongs_87 : decode cX8_belongs 87 = .ok (.iload 5, 2) := by decide +kernel
theorem dX8_belongs_89 : decode cX8_belongs 89 = .ok (.i2l, 1) := by decide +kernel
theorem dX8_belongs_90 : decode cX8_belongs 90 = .ok (.invokevirtual 136, 3) := by decide +kernel
theorem dX8_belongs_93 : decode cX8_belongs 93 = .ok (.istore 6, 2) := by decide +kernel
theorem dX8_belongs_95 : decode cX8_belongs 95 = .ok (.iinc 5 1, 3) := by decide +kernel
theorem dX8_belongs_98 : decode cX8_belongs 98 = .ok (.goto (-39), 3) := by decide +kernel
theorem dX8_belongs_101 : decode cX8_belongs 101 = .ok (.aload_n 0, 1) := by decide +kernel
theorem dX8_belongs_102 : decode cX8_belongs 102 = .ok (.iload 4, 2) := by decide +kernel
theorem dX8_belongs_104 : decode cX8_belongs 104 = .ok (.i2l, 1) := by decide +kernel
theorem dX8_belongs_105 : decode cX8_belongs 105 = .ok (.invokevirtual 133, 3) := by decide +kernel
theorem dX8_belongs_108 : decode cX8_belongs 108 = .ok (.lconst 0, 1) := by decide +kernel
theorem dX8_belongs_109 : decode cX8_belongs 109 = .ok (.lcmp, 1) := by decide +kernel
theorem dX8_belongs_110 : decode cX8_belongs 110 = .ok (.ifCond .eq 7, 3) := by decide +kernel
theorem dX8_belongs_113 : decode cX8_belongs 113 = .ok (.iconst 1, 1) := by decide +kernel
theorem dX8_belongs_114 : decode cX8_belongs 114 = .ok (.goto 4, 3) := by decide +kernel
theorem dX8_belongs_117 : decode cX8_belongs 117 = .ok (.iconst 0, 1) := by decide +kernel
theorem dX8_belongs_118 : decode cX8_belongs 118 = .ok (.ireturn, 1) := by decide +kernel
set_option maxRecDepth 20000 in
theorem ggX8_cycles_X8_spread : GoodIn wsX8_cycles wsX8_spread := goodIn_r _ [7, 2, 8, 9, 10, 11, 12, 13, 6, 14, 15, 16, 17, 18, 19, 20, 21, 22, 23, 24, 25, 26, 27, 28, 29, 30, 31, 32, 33, 34, 35, 36, 37, 38, 47, 48, 49, 50, 51, 52, 53, 54, 55, 56, 57, 58, 59, 60, 61, 62, 63, 64, 65, 66] (by decide +kernel) (by decide +kernel)
set_option maxRecDepth 20000 in
theorem gX8_cycles_X8_spread : GoodIn wsX8_cycles (wsV RX8 127 RX8 yX8_spread wsX8_spread) := goodIn_app (goodIn_of _ (by decide +kernel)) ggX8_cycles_X8_spread
set_option maxRecDepth 20000 in
theorem ggX8_cycles_X8_isRing : GoodIn wsX8_cycles wsX8_isRing := goodIn_r _ [42, 16, 15, 43, 44, 45, 6, 46, 31, 32, 21, 22, 23, 24, 8, 25, 26, 27, 28, 29, 30, 9, 33, 47, 48, 49, 50, 51, 52, 53, 54, 55, 56, 57, 58, 59, 60, 61, 62, 63, 64, 65, 66] (by decide +kernel) (by decide +kernel)
set_option maxRecDepth 20000 in
theorem gX8_cycles_X8_isRing : GoodIn wsX8_cycles (wsV RX8 124 RX8 yX8_isRing wsX8_isRing) := goodIn_app (goodIn_of _ (by decide +kernel)) ggX8_cycles_X8_isRing
theorem dX8_cycles_0 : decode cX8_cycles 0 = .ok (.aload_n 0, 1) := by decide +kernel
theorem dX8_cycles_1 : decode cX8_cycles 1 = .ok (.iconst 0, 1) := by decide +kernel
theorem dX8_cycles_2 : decode cX8_cycles 2 = .ok (.putfield 58, 3) := by decide +kernel
theorem dX8_cycles_5 : decode cX8_cycles 5 = .ok (.aload_n 0, 1) := by decide +kernel
theorem dX8_cycles_6 : decode cX8_cycles 6 = .ok (.invokevirtual 127, 3) := by decide +kernel
theorem dX8_cycles_9 : decode cX8_cycles 9 = .ok (.istore_n 1, 1) := by decide +kernel
theorem dX8_cycles_10 : decode cX8_cycles 10 = .ok (.iconst 0, 1) := by decide +kernel
theorem dX8_cycles_11 : decode cX8_cycles 11 = .ok (.istore_n 2, 1) := by decide +kernel
theorem dX8_cycles_12 : decode cX8_cycles 12 = .ok (.iconst 1, 1) := by decide +kernel
theorem dX8_cycles_13 : decode cX8_cycles 13 = .ok (.istore_n 3, 1) := by decide +kernel
theorem dX8_cycles_14 : decode cX8_cycles 14 = .ok (.iload_n 3, 1) := by decide +kernel
theorem dX8_cycles_15 : decode cX8_cycles 15 = .ok (.iload_n 1, 1) := by decide +kernel
theorem dX8_cycles_16 : decode cX8_cycles 16 = .ok (.if_icmp .ge 30, 3) := by decide +kernel
theorem dX8_cycles_19 : decode cX8_cycles 19 = .ok (.iload_n 2, 1) := by decide +kernel
theorem dX8_cycles_20 : decode cX8_cycles 20 = .ok (.aload_n 0, 1) := by decide +kernel
theorem dX8_cycles_21 : decode cX8_cycles 21 = .ok (.aload_n 0, 1) := by decide +kernel
theorem dX8_cycles_22 : decode cX8_cycles 22 = .ok (.getfield 39, 3) := by decide +kernel
theorem dX8_cycles_25 : decode cX8_cycles 25 = .ok (.iload_n 3, 1) := by decide +kernel
theorem dX8_cycles_26 : decode cX8_cycles 26 = .ok (.laload, 1) := by decide +kernel
theorem dX8_cycles_27 : decode cX8_cycles 27 = .ok (.invokevirtual 124, 3) := by decide +kernel
theorem dX8_cycles_30 : decode cX8_cycles 30 = .ok (.ifCond .eq 7, 3) := by decide +kernel
theorem dX8_cycles_33 : decode cX8_cycles 33 = .ok (.iconst 1, 1) := by decide +kernel
theorem dX8_cycles_34 : decode cX8_cycles 34 = .ok (.goto 4, 3) := by decide +kernel
theorem dX8_cycles_37 : decode cX8_cycles 37 = .ok (.iconst 0, 1) := by decide +kernel
theorem dX8_cycles_38 : decode cX8_cycles 38 = .ok (.iadd, 1) := by decide +kernel
theorem dX8_cycles_39 : decode cX8_cycles 39 = .ok (.istore_n 2, 1) := by decide +kernel
theorem dX8_cycles_40 : decode cX8_cycles 40 = .ok (.iinc 3 1, 3) := by decide +kernel
theorem dX8_cycles_43 : decode cX8_cycles 43 = .ok (.goto (-29), 3) := by decide +kernel
theorem dX8_cycles_46 : decode cX8_cycles 46 = .ok (.iload_n 2, 1) := by decide +kernel
theorem dX8_cycles_47 : decode cX8_cycles 47 = .ok (.ireturn, 1) := by decide +kernel
set_option maxRecDepth 20000 in
theorem ggX8_light_X8_spread : GoodIn wsX8_light wsX8_spread := goodIn_r _ [7, 8, 9, 10, 2, 11, 12, 13, 6, 14, 15, 16, 17, 18, 19, 20, 21, 22, 23, 24, 25, 26, 27, 28, 29, 30, 31, 32, 33, 34, 35, 36, 37, 38, 39, 40, 41, 42, 43, 44, 45, 46, 47, 48, 49, 50, 51, 52, 53, 54, 55, 56, 57, 58] (by decide +kernel) (by decide +kernel)
set_option maxRecDepth 20000 in
theorem gX8_light_X8_spread : GoodIn wsX8_light (wsV RX8 127 RX8 yX8_spread wsX8_spread) := goodIn_app (goodIn_of _ (by decide +kernel)) ggX8_light_X8_spread
theorem dX8_light_0 : decode cX8_light 0 = .ok (.aload_n 0, 1) := by decide +kernel
theorem dX8_light_1 : decode cX8_light 1 = .ok (.iconst 0, 1) := by decide +kernel
theorem dX8_light_2 : decode cX8_light 2 = .ok (.putfield 58, 3) := by decide +kernel
theorem dX8_light_5 : decode cX8_light 5 = .ok (.aload_n 0, 1) := by decide +kernel
theorem dX8_light_6 : decode cX8_light 6 = .ok (.invokevirtual 127, 3) := by decide +kernel
theorem dX8_light_9 : decode cX8_light 9 = .ok (.istore_n 3, 1) := by decide +kernel
theorem dX8_light_10 : decode cX8_light 10 = .ok (.iconst 0, 1) := by decide +kernel
theorem dX8_light_11 : decode cX8_light 11 = .ok (.istore 4, 2) := by decide +kernel
theorem dX8_light_13 : decode cX8_light 13 = .ok (.iconst 0, 1) := by decide +kernel
theorem dX8_light_14 : decode cX8_light 14 = .ok (.istore 5, 2) := by decide +kernel
theorem dX8_light_16 : decode cX8_light 16 = .ok (.iload 5, 2) := by decide +kernel
theorem dX8_light_18 : decode cX8_light 18 = .ok (.iload_n 3, 1) := by decide +kernel
theorem dX8_light_19 : decode cX8_light 19 = .ok (.if_icmp .ge 31, 3) := by decide +kernel
theorem dX8_light_22 : decode cX8_light 22 = .ok (.iload 4, 2) := by decide +kernel
theorem dX8_light_24 : decode cX8_light 24 = .ok (.aload_n 0, 1) := by decide +kernel
theorem dX8_light_25 : decode cX8_light 25 = .ok (.getfield 42, 3) := by decide +kernel
theorem dX8_light_28 : decode cX8_light 28 = .ok (.iload 5, 2) := by decide +kernel
theorem dX8_light_30 : decode cX8_light 30 = .ok (.laload, 1) := by decide +kernel
theorem dX8_light_31 : decode cX8_light 31 = .ok (.lload_n 1, 1) := by decide +kernel
theorem dX8_light_32 : decode cX8_light 32 = .ok (.lcmp, 1) := by decide +kernel
theorem dX8_light_33 : decode cX8_light 33 = .ok (.ifCond .gt 7, 3) := by decide +kernel
theorem dX8_light_36 : decode cX8_light 36 = .ok (.iconst 1, 1) := by decide +kernel
theorem dX8_light_37 : decode cX8_light 37 = .ok (.goto 4, 3) := by decide +kernel
theorem dX8_light_40 : decode cX8_light 40 = .ok (.iconst 0, 1) := by decide +kernel
theorem dX8_light_41 : decode cX8_light 41 = .ok (.iadd, 1) := by decide +kernel
theorem dX8_light_42 : decode cX8_light 42 = .ok (.istore 4, 2) := by decide +kernel
theorem dX8_light_44 : decode cX8_light 44 = .ok (.iinc 5 1, 3) := by decide +kernel
theorem dX8_light_47 : decode cX8_light 47 = .ok (.goto (-31), 3) := by decide +kernel
theorem dX8_light_50 : decode cX8_light 50 = .ok (.iload 4, 2) := by decide +kernel
theorem dX8_light_52 : decode cX8_light 52 = .ok (.ireturn, 1) := by decide +kernel
set_option maxRecDepth 20000 in
theorem ggX8_add_X8_throwing : GoodIn wsX8_add wsX8_throwing := goodIn_r _ [7, 8, 9, 10, 11, 12, 13, 14, 15, 16, 17, 18, 19, 20, 21, 22, 23, 24, 25, 26, 27, 28] (by decide +kernel) (by decide +kernel)
set_option maxRecDepth 20000 in
theorem gX8_add_X8_throwing : GoodIn wsX8_add (wsV RX8 78 RX8 yX8_throwing wsX8_throwing) := goodIn_app (goodIn_of _ (by decide +kernel)) ggX8_add_X8_throwing
theorem dX8_add_0 : decode cX8_add 0 = .ok (.aload_n 0, 1) := by decide +kernel
theorem dX8_add_1 : decode cX8_add 1 = .ok (.lload_n 1, 1) := by decide +kernel
theorem dX8_add_2 : decode cX8_add 2 = .ok (.bipush 40, 2) := by decide +kernel
theorem dX8_add_4 : decode cX8_add 4 = .ok (.lushr, 1) := by decide +kernel
theorem dX8_add_5 : decode cX8_add 5 = .ok (.lconst 0, 1) := by decide +kernel
theorem dX8_add_6 : decode cX8_add 6 = .ok (.lcmp, 1) := by decide +kernel
theorem dX8_add_7 : decode cX8_add 7 = .ok (.ifCond .eq 7, 3) := by decide +kernel
theorem dX8_add_10 : decode cX8_add 10 = .ok (.iconst 1, 1) := by decide +kernel
theorem dX8_add_11 : decode cX8_add 11 = .ok (.goto 4, 3) := by decide +kernel
theorem dX8_add_14 : decode cX8_add 14 = .ok (.iconst 0, 1) := by decide +kernel
theorem dX8_add_15 : decode cX8_add 15 = .ok (.aload_n 0, 1) := by decide +kernel
theorem dX8_add_16 : decode cX8_add 16 = .ok (.getfield 143, 3) := by decide +kernel
theorem dX8_add_19 : decode cX8_add 19 = .ok (.bipush 64, 2) := by decide +kernel
theorem dX8_add_21 : decode cX8_add 21 = .ok (.if_icmp .ne 7, 3) := by decide +kernel
theorem dX8_add_24 : decode cX8_add 24 = .ok (.iconst 1, 1) := by decide +kernel
theorem dX8_add_25 : decode cX8_add 25 = .ok (.goto 4, 3) := by decide +kernel
theorem dX8_add_28 : decode cX8_add 28 = .ok (.iconst 0, 1) := by decide +kernel
theorem dX8_add_29 : decode cX8_add 29 = .ok (.invokevirtual 78, 3) := by decide +kernel
theorem dX8_add_32 : decode cX8_add 32 = .ok (.ifCond .eq 5, 3) := by decide +kernel
theorem dX8_add_35 : decode cX8_add 35 = .ok (.iconst 0, 1) := by decide +kernel
theorem dX8_add_36 : decode cX8_add 36 = .ok (.ireturn, 1) := by decide +kernel
theorem dX8_add_37 : decode cX8_add 37 = .ok (.aload_n 0, 1) := by decide +kernel
theorem dX8_add_38 : decode cX8_add 38 = .ok (.getfield 23, 3) := by decide +kernel
theorem dX8_add_41 : decode cX8_add 41 = .ok (.aload_n 0, 1) := by decide +kernel
theorem dX8_add_42 : decode cX8_add 42 = .ok (.getfield 143, 3) := by decide +kernel
theorem dX8_add_45 : decode cX8_add 45 = .ok (.lload_n 1, 1) := by decide +kernel
theorem dX8_add_46 : decode cX8_add 46 = .ok (.lastore, 1) := by decide +kernel
theorem dX8_add_47 : decode cX8_add 47 = .ok (.aload_n 0, 1) := by decide +kernel
theorem dX8_add_48 : decode cX8_add 48 = .ok (.dup, 1) := by decide +kernel
theorem dX8_add_49 : decode cX8_add 49 = .ok (.getfield 143, 3) := by decide +kernel
theorem dX8_add_52 : decode cX8_add 52 = .ok (.iconst 1, 1) := by decide +kernel
theorem dX8_add_53 : decode cX8_add 53 = .ok (.iadd, 1) := by decide +kernel
theorem dX8_add_54 : decode cX8_add 54 = .ok (.putfield 143, 3) := by decide +kernel
theorem dX8_add_57 : decode cX8_add 57 = .ok (.aload_n 0, 1) := by decide +kernel
theorem dX8_add_58 : decode cX8_add 58 = .ok (.getfield 143, 3) := by decide +kernel
theorem dX8_add_61 : decode cX8_add 61 = .ok (.ireturn, 1) := by decide +kernel
theorem dX8_clear_0 : decode cX8_clear 0 = .ok (.aload_n 0, 1) := by decide +kernel
theorem dX8_clear_1 : decode cX8_clear 1 = .ok (.iconst 0, 1) := by decide +kernel
theorem dX8_clear_2 : decode cX8_clear 2 = .ok (.putfield 58, 3) := by decide +kernel
theorem dX8_clear_5 : decode cX8_clear 5 = .ok (.aload_n 0, 1) := by decide +kernel
theorem dX8_clear_6 : decode cX8_clear 6 = .ok (.getfield 143, 3) := by decide +kernel
theorem dX8_clear_9 : decode cX8_clear 9 = .ok (.istore_n 1, 1) := by decide +kernel
theorem dX8_clear_10 : decode cX8_clear 10 = .ok (.aload_n 0, 1) := by decide +kernel
theorem dX8_clear_11 : decode cX8_clear 11 = .ok (.iconst 0, 1) := by decide +kernel
theorem dX8_clear_12 : decode cX8_clear 12 = .ok (.putfield 143, 3) := by decide +kernel
theorem dX8_clear_15 : decode cX8_clear 15 = .ok (.iload_n 1, 1) := by decide +kernel
theorem dX8_clear_16 : decode cX8_clear 16 = .ok (.ireturn, 1) := by decide +kernel
set_option maxRecDepth 20000 in
theorem ggX8_takeList_X8_take : GoodIn wsX8_takeList wsX8_take := goodIn_r _ [8, 1, 9, 10, 11, 12, 7, 13, 14, 15, 16, 17, 18, 19, 20, 21, 22, 23, 24, 25, 26, 27, 28, 29, 30, 31, 32, 33] (by decide +kernel) (by decide +kernel)
set_option maxRecDepth 20000 in
theorem gX8_takeList_X8_take : GoodIn wsX8_takeList (wsV RX8 136 RX8 yX8_take wsX8_take) := goodIn_app (goodIn_of _ (by decide +kernel)) ggX8_takeList_X8_take
theorem dX8_takeList_0 : decode cX8_takeList 0 = .ok (.aload_n 0, 1) := by decide +kernel
theorem dX8_takeList_1 : decode cX8_takeList 1 = .ok (.iconst 0, 1) := by decide +kernel
theorem dX8_takeList_2 : decode cX8_takeList 2 = .ok (.putfield 130, 3) := by decide +kernel
theorem dX8_takeList_5 : decode cX8_takeList 5 = .ok (.iconst 0, 1) := by decide +kernel
theorem dX8_takeList_6 : decode cX8_takeList 6 = .ok (.istore_n 1, 1) := by decide +kernel
theorem dX8_takeList_7 : decode cX8_takeList 7 = .ok (.iload_n 1, 1) := by decide +kernel
theorem dX8_takeList_8 : decode cX8_takeList 8 = .ok (.aload_n 0, 1) := by decide +kernel
theorem dX8_takeList_9 : decode cX8_takeList 9 = .ok (.getfield 143, 3) := by decide +kernel
theorem dX8_takeList_12 : decode cX8_takeList 12 = .ok (.if_icmp .ge 20, 3) := by decide +kernel
theorem dX8_takeList_15 : decode cX8_takeList 15 = .ok (.aload_n 0, 1) := by decide +kernel
theorem dX8_takeList_16 : decode cX8_takeList 16 = .ok (.aload_n 0, 1) := by decide +kernel
theorem dX8_takeList_17 : decode cX8_takeList 17 = .ok (.getfield 23, 3) := by decide +kernel
theorem dX8_takeList_20 : decode cX8_takeList 20 = .ok (.iload_n 1, 1) := by decide +kernel
theorem dX8_takeList_21 : decode cX8_takeList 21 = .ok (.laload, 1) := by decide +kernel
theorem dX8_takeList_22 : decode cX8_takeList 22 = .ok (.invokevirtual 136, 3) := by decide +kernel
theorem dX8_takeList_25 : decode cX8_takeList 25 = .ok (.istore_n 2, 1) := by decide +kernel
theorem dX8_takeList_26 : decode cX8_takeList 26 = .ok (.iinc 1 1, 3) := by decide +kernel
theorem dX8_takeList_29 : decode cX8_takeList 29 = .ok (.goto (-22), 3) := by decide +kernel
theorem dX8_takeList_32 : decode cX8_takeList 32 = .ok (.return_, 1) := by decide +kernel
set_option maxRecDepth 20000 in
theorem ggX8_spans_X8_throwing : GoodIn wsX8_spans wsX8_throwing := goodIn_r _ [5, 6, 23, 24, 25, 26, 27, 28, 29, 30, 31, 32, 33, 34, 35, 36, 37, 38, 39, 40, 41, 42] (by decide +kernel) (by decide +kernel)
set_option maxRecDepth 20000 in
theorem gX8_spans_X8_throwing : GoodIn wsX8_spans (wsV RX8 78 RX8 yX8_throwing wsX8_throwing) := goodIn_app (goodIn_of _ (by decide +kernel)) ggX8_spans_X8_throwing
set_option maxRecDepth 20000 in
theorem ggX8_spans_X8_takeList : GoodIn wsX8_spans wsX8_takeList := goodIn_r _ [10, 11, 12, 13, 14, 15, 16, 4, 17, 18, 19, 20, 21, 22, 23, 24, 25, 26, 27, 28, 29, 30, 31, 32, 33, 34, 35, 36, 37, 38, 39, 40, 41, 42] (by decide +kernel) (by decide +kernel)
set_option maxRecDepth 20000 in
theorem gX8_spans_X8_takeList : GoodIn wsX8_spans (wsV RX8 146 RX8 yX8_takeList wsX8_takeList) := goodIn_app (goodIn_of _ (by decide +kernel)) ggX8_spans_X8_takeList
set_option maxRecDepth 20000 in
theorem ggX8_spans_X8_rest : GoodIn wsX8_spans wsX8_rest := goodIn_r _ [22, 11, 18, 23, 24, 25, 26, 27, 28, 29, 30, 31, 32, 33, 34, 35, 36, 37, 38, 39, 40, 41, 42] (by decide +kernel) (by decide +kernel)
set_option maxRecDepth 20000 in
theorem gX8_spans_X8_rest : GoodIn wsX8_spans (wsV RX8 133 RX8 yX8_rest wsX8_rest) := goodIn_app (goodIn_of _ (by decide +kernel)) ggX8_spans_X8_rest
theorem dX8_spans_0 : decode cX8_spans 0 = .ok (.aload_n 0, 1) := by decide +kernel
theorem dX8_spans_1 : decode cX8_spans 1 = .ok (.lload_n 1, 1) := by decide +kernel
theorem dX8_spans_2 : decode cX8_spans 2 = .ok (.bipush 40, 2) := by decide +kernel
theorem dX8_spans_4 : decode cX8_spans 4 = .ok (.lushr, 1) := by decide +kernel
theorem dX8_spans_5 : decode cX8_spans 5 = .ok (.lconst 0, 1) := by decide +kernel
theorem dX8_spans_6 : decode cX8_spans 6 = .ok (.lcmp, 1) := by decide +kernel
theorem dX8_spans_7 : decode cX8_spans 7 = .ok (.ifCond .eq 7, 3) := by decide +kernel
theorem dX8_spans_10 : decode cX8_spans 10 = .ok (.iconst 1, 1) := by decide +kernel
theorem dX8_spans_11 : decode cX8_spans 11 = .ok (.goto 4, 3) := by decide +kernel
theorem dX8_spans_14 : decode cX8_spans 14 = .ok (.iconst 0, 1) := by decide +kernel
theorem dX8_spans_15 : decode cX8_spans 15 = .ok (.iconst 0, 1) := by decide +kernel
theorem dX8_spans_16 : decode cX8_spans 16 = .ok (.invokevirtual 78, 3) := by decide +kernel
theorem dX8_spans_19 : decode cX8_spans 19 = .ok (.ifCond .eq 5, 3) := by decide +kernel
theorem dX8_spans_22 : decode cX8_spans 22 = .ok (.iconst 0, 1) := by decide +kernel
theorem dX8_spans_23 : decode cX8_spans 23 = .ok (.ireturn, 1) := by decide +kernel
theorem dX8_spans_24 : decode cX8_spans 24 = .ok (.aload_n 0, 1) := by decide +kernel
theorem dX8_spans_25 : decode cX8_spans 25 = .ok (.invokevirtual 146, 3) := by decide +kernel
theorem dX8_spans_28 : decode cX8_spans 28 = .ok (.aload_n 0, 1) := by decide +kernel
theorem dX8_spans_29 : decode cX8_spans 29 = .ok (.lload_n 1, 1) := by decide +kernel
theorem dX8_spans_30 : decode cX8_spans 30 = .ok (.invokevirtual 133, 3) := by decide +kernel
theorem dX8_spans_33 : decode cX8_spans 33 = .ok (.lconst 0, 1) := by decide +kernel
theorem dX8_spans_34 : decode cX8_spans 34 = .ok (.lcmp, 1) := by decide +kernel
theorem dX8_spans_35 : decode cX8_spans 35 = .ok (.ifCond .ne 7, 3) := by decide +kernel
theorem dX8_spans_38 : decode cX8_spans 38 = .ok (.iconst 1, 1) := by decide +kernel
theorem dX8_spans_39 : decode cX8_spans 39 = .ok (.goto 4, 3) := by decide +kernel
theorem dX8_spans_42 : decode cX8_spans 42 = .ok (.iconst 0, 1) := by decide +kernel
theorem dX8_spans_43 : decode cX8_spans 43 = .ok (.ireturn, 1) := by decide +kernel
set_option maxRecDepth 20000 in
theorem ggX8_alone_X8_groups : GoodIn wsX8_alone wsX8_groups := goodIn_r _ [7, 2, 1, 8, 9, 10, 6, 11, 12, 13, 14, 15, 16, 17, 18, 19, 20, 21, 22, 23, 24, 25, 26, 27, 28, 29, 30, 31, 32, 33, 34, 35, 36, 37, 38, 39, 40, 41, 42] (by decide +kernel) (by decide +kernel)
set_option maxRecDepth 20000 in
theorem gX8_alone_X8_groups : GoodIn wsX8_alone (wsV RX8 74 RX8 yX8_groups wsX8_groups) := goodIn_app (goodIn_of _ (by decide +kernel)) ggX8_alone_X8_groups
set_option maxRecDepth 20000 in
theorem ggX8_alone_X8_beginGroups : GoodIn wsX8_alone wsX8_beginGroups := goodIn_r _ [11, 12, 13, 14, 23, 24, 25, 26, 27, 28, 29, 30, 31, 32, 33, 34, 35, 36, 37, 38, 39, 40, 41, 42] (by decide +kernel) (by decide +kernel)
set_option maxRecDepth 20000 in
theorem gX8_alone_X8_beginGroups : GoodIn wsX8_alone (wsV RX8 67 RX8 yX8_beginGroups wsX8_beginGroups) := goodIn_app (goodIn_of _ (by decide +kernel)) ggX8_alone_X8_beginGroups
set_option maxRecDepth 20000 in
theorem ggX8_alone_X8_joins : GoodIn wsX8_alone wsX8_joins := goodIn_r _ [18, 19, 20, 13, 21, 12, 14, 22, 2, 23, 24, 25, 26, 27, 28, 29, 30, 31, 32, 33, 34, 35, 36, 37, 38, 39, 40, 41, 42] (by decide +kernel) (by decide +kernel)
set_option maxRecDepth 20000 in
theorem gX8_alone_X8_joins : GoodIn wsX8_alone (wsV RX8 70 RX8 yX8_joins wsX8_joins) := goodIn_app (goodIn_of _ (by decide +kernel)) ggX8_alone_X8_joins
theorem dX8_alone_0 : decode cX8_alone 0 = .ok (.iconst 0, 1) := by decide +kernel
theorem dX8_alone_1 : decode cX8_alone 1 = .ok (.istore_n 1, 1) := by decide +kernel
theorem dX8_alone_2 : decode cX8_alone 2 = .ok (.aload_n 0, 1) := by decide +kernel
theorem dX8_alone_3 : decode cX8_alone 3 = .ok (.invokevirtual 74, 3) := by decide +kernel
theorem dX8_alone_6 : decode cX8_alone 6 = .ok (.istore_n 2, 1) := by decide +kernel
theorem dX8_alone_7 : decode cX8_alone 7 = .ok (.iconst 0, 1) := by decide +kernel
theorem dX8_alone_8 : decode cX8_alone 8 = .ok (.istore_n 3, 1) := by decide +kernel
theorem dX8_alone_9 : decode cX8_alone 9 = .ok (.iload_n 3, 1) := by decide +kernel
theorem dX8_alone_10 : decode cX8_alone 10 = .ok (.aload_n 0, 1) := by decide +kernel
theorem dX8_alone_11 : decode cX8_alone 11 = .ok (.getfield 61, 3) := by decide +kernel
theorem dX8_alone_14 : decode cX8_alone 14 = .ok (.if_icmp .ge 76, 3) := by decide +kernel
theorem dX8_alone_17 : decode cX8_alone 17 = .ok (.aload_n 0, 1) := by decide +kernel
theorem dX8_alone_18 : decode cX8_alone 18 = .ok (.invokevirtual 67, 3) := by decide +kernel
theorem dX8_alone_21 : decode cX8_alone 21 = .ok (.aload_n 0, 1) := by decide +kernel
theorem dX8_alone_22 : decode cX8_alone 22 = .ok (.getfield 7, 3) := by decide +kernel
theorem dX8_alone_25 : decode cX8_alone 25 = .ok (.istore 4, 2) := by decide +kernel
theorem dX8_alone_27 : decode cX8_alone 27 = .ok (.iconst 0, 1) := by decide +kernel
theorem dX8_alone_28 : decode cX8_alone 28 = .ok (.istore 5, 2) := by decide +kernel
theorem dX8_alone_30 : decode cX8_alone 30 = .ok (.iload 5, 2) := by decide +kernel
theorem dX8_alone_32 : decode cX8_alone 32 = .ok (.aload_n 0, 1) := by decide +kernel
theorem dX8_alone_33 : decode cX8_alone 33 = .ok (.getfield 61, 3) := by decide +kernel
theorem dX8_alone_36 : decode cX8_alone 36 = .ok (.if_icmp .ge 34, 3) := by decide +kernel
theorem dX8_alone_39 : decode cX8_alone 39 = .ok (.iload 5, 2) := by decide +kernel
theorem dX8_alone_41 : decode cX8_alone 41 = .ok (.iload_n 3, 1) := by decide +kernel
theorem dX8_alone_42 : decode cX8_alone 42 = .ok (.if_icmp .eq 22, 3) := by decide +kernel
theorem dX8_alone_45 : decode cX8_alone 45 = .ok (.iload 4, 2) := by decide +kernel
theorem dX8_alone_47 : decode cX8_alone 47 = .ok (.aload_n 0, 1) := by decide +kernel
theorem dX8_alone_48 : decode cX8_alone 48 = .ok (.iload 5, 2) := by decide +kernel
theorem dX8_alone_50 : decode cX8_alone 50 = .ok (.invokevirtual 70, 3) := by decide +kernel
theorem dX8_alone_53 : decode cX8_alone 53 = .ok (.ifCond .eq 7, 3) := by decide +kernel
theorem dX8_alone_56 : decode cX8_alone 56 = .ok (.iconst 1, 1) := by decide +kernel
theorem dX8_alone_57 : decode cX8_alone 57 = .ok (.goto 4, 3) := by decide +kernel
theorem dX8_alone_60 : decode cX8_alone 60 = .ok (.iconst 0, 1) := by decide +kernel
theorem dX8_alone_61 : decode cX8_alone 61 = .ok (.isub, 1) := by decide +kernel
theorem dX8_alone_62 : decode cX8_alone 62 = .ok (.istore 4, 2) := by decide +kernel
theorem dX8_alone_64 : decode cX8_alone 64 = .ok (.iinc 5 1, 3) := by decide +kernel
theorem dX8_alone_67 : decode cX8_alone 67 = .ok (.goto (-37), 3) := by decide +kernel
theorem dX8_alone_70 : decode cX8_alone 70 = .ok (.iload_n 1, 1) := by decide +kernel
theorem dX8_alone_71 : decode cX8_alone 71 = .ok (.iload 4, 2) := by decide +kernel
theorem dX8_alone_73 : decode cX8_alone 73 = .ok (.iload_n 2, 1) := by decide +kernel
theorem dX8_alone_74 : decode cX8_alone 74 = .ok (.if_icmp .le 7, 3) := by decide +kernel
theorem dX8_alone_77 : decode cX8_alone 77 = .ok (.iconst 1, 1) := by decide +kernel
theorem dX8_alone_78 : decode cX8_alone 78 = .ok (.goto 4, 3) := by decide +kernel
theorem dX8_alone_81 : decode cX8_alone 81 = .ok (.iconst 0, 1) := by decide +kernel
theorem dX8_alone_82 : decode cX8_alone 82 = .ok (.iadd, 1) := by decide +kernel
theorem dX8_alone_83 : decode cX8_alone 83 = .ok (.istore_n 1, 1) := by decide +kernel
theorem dX8_alone_84 : decode cX8_alone 84 = .ok (.iinc 3 1, 3) := by decide +kernel
theorem dX8_alone_87 : decode cX8_alone 87 = .ok (.goto (-78), 3) := by decide +kernel
theorem dX8_alone_90 : decode cX8_alone 90 = .ok (.iload_n 1, 1) := by decide +kernel
theorem dX8_alone_91 : decode cX8_alone 91 = .ok (.ireturn, 1) := by decide +kernel
set_option maxRecDepth 20000 in
theorem ggX8_areEven_X8_groups : GoodIn wsX8_areEven wsX8_groups := goodIn_r _ [8, 9, 2, 10, 11, 12, 7, 13, 1, 14, 15, 16, 17, 18, 19, 20, 21, 3, 22, 23, 24, 25, 26, 27, 28, 29, 30, 31, 32, 33, 34, 35, 36, 37, 38, 39, 40, 41, 42] (by decide +kernel) (by decide +kernel)
set_option maxRecDepth 20000 in
theorem gX8_areEven_X8_groups : GoodIn wsX8_areEven (wsV RX8 74 RX8 yX8_groups wsX8_groups) := goodIn_app (goodIn_of _ (by decide +kernel)) ggX8_areEven_X8_groups
theorem dX8_areEven_0 : decode cX8_areEven 0 = .ok (.aload_n 0, 1) := by decide +kernel
theorem dX8_areEven_1 : decode cX8_areEven 1 = .ok (.invokevirtual 74, 3) := by decide +kernel
theorem dX8_areEven_4 : decode cX8_areEven 4 = .ok (.istore_n 1, 1) := by decide +kernel
theorem dX8_areEven_5 : decode cX8_areEven 5 = .ok (.iload_n 1, 1) := by decide +kernel
theorem dX8_areEven_6 : decode cX8_areEven 6 = .ok (.ifCond .le 7, 3) := by decide +kernel
theorem dX8_areEven_9 : decode cX8_areEven 9 = .ok (.iconst 1, 1) := by decide +kernel
theorem dX8_areEven_10 : decode cX8_areEven 10 = .ok (.goto 4, 3) := by decide +kernel
theorem dX8_areEven_13 : decode cX8_areEven 13 = .ok (.iconst 0, 1) := by decide +kernel
theorem dX8_areEven_14 : decode cX8_areEven 14 = .ok (.istore_n 2, 1) := by decide +kernel
theorem dX8_areEven_15 : decode cX8_areEven 15 = .ok (.iconst 0, 1) := by decide +kernel
theorem dX8_areEven_16 : decode cX8_areEven 16 = .ok (.istore_n 3, 1) := by decide +kernel
theorem dX8_areEven_17 : decode cX8_areEven 17 = .ok (.iload_n 3, 1) := by decide +kernel
theorem dX8_areEven_18 : decode cX8_areEven 18 = .ok (.aload_n 0, 1) := by decide +kernel
theorem dX8_areEven_19 : decode cX8_areEven 19 = .ok (.getfield 64, 3) := by decide +kernel
theorem dX8_areEven_22 : decode cX8_areEven 22 = .ok (.if_icmp .ge 64, 3) := by decide +kernel
theorem dX8_areEven_25 : decode cX8_areEven 25 = .ok (.iconst 0, 1) := by decide +kernel
theorem dX8_areEven_26 : decode cX8_areEven 26 = .ok (.istore 4, 2) := by decide +kernel
theorem dX8_areEven_28 : decode cX8_areEven 28 = .ok (.iconst 0, 1) := by decide +kernel
theorem dX8_areEven_29 : decode cX8_areEven 29 = .ok (.istore 5, 2) := by decide +kernel
theorem dX8_areEven_31 : decode cX8_areEven 31 = .ok (.iload 5, 2) := by decide +kernel
theorem dX8_areEven_33 : decode cX8_areEven 33 = .ok (.aload_n 0, 1) := by decide +kernel
theorem dX8_areEven_34 : decode cX8_areEven 34 = .ok (.getfield 61, 3) := by decide +kernel
theorem dX8_areEven_37 : decode cX8_areEven 37 = .ok (.if_icmp .ge 26, 3) := by decide +kernel
theorem dX8_areEven_40 : decode cX8_areEven 40 = .ok (.iload 4, 2) := by decide +kernel
theorem dX8_areEven_42 : decode cX8_areEven 42 = .ok (.aload_n 0, 1) := by decide +kernel
theorem dX8_areEven_43 : decode cX8_areEven 43 = .ok (.getfield 33, 3) := by decide +kernel
theorem dX8_areEven_46 : decode cX8_areEven 46 = .ok (.iload_n 3, 1) := by decide +kernel
theorem dX8_areEven_47 : decode cX8_areEven 47 = .ok (.laload, 1) := by decide +kernel
theorem dX8_areEven_48 : decode cX8_areEven 48 = .ok (.iload 5, 2) := by decide +kernel
theorem dX8_areEven_50 : decode cX8_areEven 50 = .ok (.lshr, 1) := by decide +kernel
theorem dX8_areEven_51 : decode cX8_areEven 51 = .ok (.lconst 1, 1) := by decide +kernel
theorem dX8_areEven_52 : decode cX8_areEven 52 = .ok (.land, 1) := by decide +kernel
theorem dX8_areEven_53 : decode cX8_areEven 53 = .ok (.l2i, 1) := by decide +kernel
theorem dX8_areEven_54 : decode cX8_areEven 54 = .ok (.iadd, 1) := by decide +kernel
theorem dX8_areEven_55 : decode cX8_areEven 55 = .ok (.istore 4, 2) := by decide +kernel
theorem dX8_areEven_57 : decode cX8_areEven 57 = .ok (.iinc 5 1, 3) := by decide +kernel
theorem dX8_areEven_60 : decode cX8_areEven 60 = .ok (.goto (-29), 3) := by decide +kernel
theorem dX8_areEven_63 : decode cX8_areEven 63 = .ok (.iload_n 2, 1) := by decide +kernel
theorem dX8_areEven_64 : decode cX8_areEven 64 = .ok (.ifCond .eq 14, 3) := by decide +kernel
theorem dX8_areEven_67 : decode cX8_areEven 67 = .ok (.iload 4, 2) := by decide +kernel
theorem dX8_areEven_69 : decode cX8_areEven 69 = .ok (.iconst 2, 1) := by decide +kernel
theorem dX8_areEven_70 : decode cX8_areEven 70 = .ok (.irem, 1) := by decide +kernel
theorem dX8_areEven_71 : decode cX8_areEven 71 = .ok (.ifCond .ne 7, 3) := by decide +kernel
theorem dX8_areEven_74 : decode cX8_areEven 74 = .ok (.iconst 1, 1) := by decide +kernel
theorem dX8_areEven_75 : decode cX8_areEven 75 = .ok (.goto 4, 3) := by decide +kernel
theorem dX8_areEven_78 : decode cX8_areEven 78 = .ok (.iconst 0, 1) := by decide +kernel
theorem dX8_areEven_79 : decode cX8_areEven 79 = .ok (.istore_n 2, 1) := by decide +kernel
theorem dX8_areEven_80 : decode cX8_areEven 80 = .ok (.iinc 3 1, 3) := by decide +kernel
theorem dX8_areEven_83 : decode cX8_areEven 83 = .ok (.goto (-66), 3) := by decide +kernel
theorem dX8_areEven_86 : decode cX8_areEven 86 = .ok (.iload_n 2, 1) := by decide +kernel
theorem dX8_areEven_87 : decode cX8_areEven 87 = .ok (.ireturn, 1) := by decide +kernel
set_option maxRecDepth 20000 in
theorem ggX8_parting_X8_groups : GoodIn wsX8_parting wsX8_groups := goodIn_r _ [9, 1, 2, 10, 11, 12, 8, 13, 14, 15, 16, 17, 18, 19, 20, 3, 4, 21, 22, 23, 24, 25, 26, 27, 28, 29, 30, 31, 32, 33, 34, 35, 36, 37, 38, 39, 40, 41, 42] (by decide +kernel) (by decide +kernel)
set_option maxRecDepth 20000 in
theorem gX8_parting_X8_groups : GoodIn wsX8_parting (wsV RX8 74 RX8 yX8_groups wsX8_groups) := goodIn_app (goodIn_of _ (by decide +kernel)) ggX8_parting_X8_groups
set_option maxRecDepth 20000 in
theorem ggX8_parting_X8_beginGroups : GoodIn wsX8_parting wsX8_beginGroups := goodIn_r _ [13, 14, 15, 16, 23, 24, 25, 26, 27, 28, 29, 30, 31, 32, 33, 34, 35, 36, 37, 38, 39, 40, 41, 42] (by decide +kernel) (by decide +kernel)
set_option maxRecDepth 20000 in
theorem gX8_parting_X8_beginGroups : GoodIn wsX8_parting (wsV RX8 67 RX8 yX8_beginGroups wsX8_beginGroups) := goodIn_app (goodIn_of _ (by decide +kernel)) ggX8_parting_X8_beginGroups
set_option maxRecDepth 20000 in
theorem ggX8_parting_X8_joins : GoodIn wsX8_parting wsX8_joins := goodIn_r _ [20, 3, 4, 15, 21, 14, 16, 22, 1, 23, 24, 25, 26, 27, 28, 29, 30, 31, 32, 33, 34, 35, 36, 37, 38, 39, 40, 41, 42] (by decide +kernel) (by decide +kernel)
set_option maxRecDepth 20000 in
theorem gX8_parting_X8_joins : GoodIn wsX8_parting (wsV RX8 70 RX8 yX8_joins wsX8_joins) := goodIn_app (goodIn_of _ (by decide +kernel)) ggX8_parting_X8_joins
theorem dX8_parting_0 : decode cX8_parting 0 = .ok (.iconst 0, 1) := by decide +kernel
theorem dX8_parting_1 : decode cX8_parting 1 = .ok (.istore_n 1, 1) := by decide +kernel
theorem dX8_parting_2 : decode cX8_parting 2 = .ok (.aload_n 0, 1) := by decide +kernel
theorem dX8_parting_3 : decode cX8_parting 3 = .ok (.invokevirtual 74, 3) := by decide +kernel
theorem dX8_parting_6 : decode cX8_parting 6 = .ok (.istore_n 2, 1) := by decide +kernel
theorem dX8_parting_7 : decode cX8_parting 7 = .ok (.iconst 0, 1) := by decide +kernel
theorem dX8_parting_8 : decode cX8_parting 8 = .ok (.istore_n 3, 1) := by decide +kernel
theorem dX8_parting_9 : decode cX8_parting 9 = .ok (.iload_n 3, 1) := by decide +kernel
theorem dX8_parting_10 : decode cX8_parting 10 = .ok (.aload_n 0, 1) := by decide +kernel
theorem dX8_parting_11 : decode cX8_parting 11 = .ok (.getfield 7, 3) := by decide +kernel
theorem dX8_parting_14 : decode cX8_parting 14 = .ok (.if_icmp .ge 94, 3) := by decide +kernel
theorem dX8_parting_17 : decode cX8_parting 17 = .ok (.aload_n 0, 1) := by decide +kernel
theorem dX8_parting_18 : decode cX8_parting 18 = .ok (.invokevirtual 67, 3) := by decide +kernel
theorem dX8_parting_21 : decode cX8_parting 21 = .ok (.aload_n 0, 1) := by decide +kernel
theorem dX8_parting_22 : decode cX8_parting 22 = .ok (.getfield 7, 3) := by decide +kernel
theorem dX8_parting_25 : decode cX8_parting 25 = .ok (.iconst 1, 1) := by decide +kernel
theorem dX8_parting_26 : decode cX8_parting 26 = .ok (.isub, 1) := by decide +kernel
theorem dX8_parting_27 : decode cX8_parting 27 = .ok (.istore 4, 2) := by decide +kernel
theorem dX8_parting_29 : decode cX8_parting 29 = .ok (.iconst 0, 1) := by decide +kernel
theorem dX8_parting_30 : decode cX8_parting 30 = .ok (.istore 5, 2) := by decide +kernel
theorem dX8_parting_32 : decode cX8_parting 32 = .ok (.iload 5, 2) := by decide +kernel
theorem dX8_parting_34 : decode cX8_parting 34 = .ok (.aload_n 0, 1) := by decide +kernel
theorem dX8_parting_35 : decode cX8_parting 35 = .ok (.getfield 61, 3) := by decide +kernel
theorem dX8_parting_38 : decode cX8_parting 38 = .ok (.if_icmp .ge 50, 3) := by decide +kernel
theorem dX8_parting_41 : decode cX8_parting 41 = .ok (.aload_n 0, 1) := by decide +kernel
theorem dX8_parting_42 : decode cX8_parting 42 = .ok (.getfield 13, 3) := by decide +kernel
theorem dX8_parting_45 : decode cX8_parting 45 = .ok (.iload 5, 2) := by decide +kernel
theorem dX8_parting_47 : decode cX8_parting 47 = .ok (.iaload, 1) := by decide +kernel
theorem dX8_parting_48 : decode cX8_parting 48 = .ok (.iload_n 3, 1) := by decide +kernel
theorem dX8_parting_49 : decode cX8_parting 49 = .ok (.if_icmp .eq 33, 3) := by decide +kernel
theorem dX8_parting_52 : decode cX8_parting 52 = .ok (.aload_n 0, 1) := by decide +kernel
theorem dX8_parting_53 : decode cX8_parting 53 = .ok (.getfield 17, 3) := by decide +kernel
theorem dX8_parting_56 : decode cX8_parting 56 = .ok (.iload 5, 2) := by decide +kernel
theorem dX8_parting_58 : decode cX8_parting 58 = .ok (.iaload, 1) := by decide +kernel
theorem dX8_parting_59 : decode cX8_parting 59 = .ok (.iload_n 3, 1) := by decide +kernel
theorem dX8_parting_60 : decode cX8_parting 60 = .ok (.if_icmp .eq 22, 3) := by decide +kernel
theorem dX8_parting_63 : decode cX8_parting 63 = .ok (.iload 4, 2) := by decide +kernel
theorem dX8_parting_65 : decode cX8_parting 65 = .ok (.aload_n 0, 1) := by decide +kernel
theorem dX8_parting_66 : decode cX8_parting 66 = .ok (.iload 5, 2) := by decide +kernel
theorem dX8_parting_68 : decode cX8_parting 68 = .ok (.invokevirtual 70, 3) := by decide +kernel
theorem dX8_parting_71 : decode cX8_parting 71 = .ok (.ifCond .eq 7, 3) := by decide +kernel
theorem dX8_parting_74 : decode cX8_parting 74 = .ok (.iconst 1, 1) := by decide +kernel
theorem dX8_parting_75 : decode cX8_parting 75 = .ok (.goto 4, 3) := by decide +kernel
theorem dX8_parting_78 : decode cX8_parting 78 = .ok (.iconst 0, 1) := by decide +kernel
theorem dX8_parting_79 : decode cX8_parting 79 = .ok (.isub, 1) := by decide +kernel
theorem dX8_parting_80 : decode cX8_parting 80 = .ok (.istore 4, 2) := by decide +kernel
theorem dX8_parting_82 : decode cX8_parting 82 = .ok (.iinc 5 1, 3) := by decide +kernel
theorem dX8_parting_85 : decode cX8_parting 85 = .ok (.goto (-53), 3) := by decide +kernel
theorem dX8_parting_88 : decode cX8_parting 88 = .ok (.iload_n 1, 1) := by decide +kernel
theorem dX8_parting_89 : decode cX8_parting 89 = .ok (.iload 4, 2) := by decide +kernel
theorem dX8_parting_91 : decode cX8_parting 91 = .ok (.iload_n 2, 1) := by decide +kernel
theorem dX8_parting_92 : decode cX8_parting 92 = .ok (.if_icmp .le 7, 3) := by decide +kernel
theorem dX8_parting_95 : decode cX8_parting 95 = .ok (.iconst 1, 1) := by decide +kernel
theorem dX8_parting_96 : decode cX8_parting 96 = .ok (.goto 4, 3) := by decide +kernel
theorem dX8_parting_99 : decode cX8_parting 99 = .ok (.iconst 0, 1) := by decide +kernel
theorem dX8_parting_100 : decode cX8_parting 100 = .ok (.iadd, 1) := by decide +kernel
theorem dX8_parting_101 : decode cX8_parting 101 = .ok (.istore_n 1, 1) := by decide +kernel
theorem dX8_parting_102 : decode cX8_parting 102 = .ok (.iinc 3 1, 3) := by decide +kernel
theorem dX8_parting_105 : decode cX8_parting 105 = .ok (.goto (-96), 3) := by decide +kernel
theorem dX8_parting_108 : decode cX8_parting 108 = .ok (.iload_n 1, 1) := by decide +kernel
theorem dX8_parting_109 : decode cX8_parting 109 = .ok (.ireturn, 1) := by decide +kernel
set_option maxRecDepth 20000 in
theorem ggX8_rank_X8_takeList : GoodIn wsX8_rank wsX8_takeList := goodIn_r _ [6, 1, 7, 8, 9, 10, 11, 5, 12, 13, 14, 15, 16, 17, 18, 19, 20, 21, 22, 23, 24, 25, 26, 27, 28, 29, 30, 31, 32, 33, 34, 35, 36, 37] (by decide +kernel) (by decide +kernel)
set_option maxRecDepth 20000 in
theorem gX8_rank_X8_takeList : GoodIn wsX8_rank (wsV RX8 146 RX8 yX8_takeList wsX8_takeList) := goodIn_app (goodIn_of _ (by decide +kernel)) ggX8_rank_X8_takeList
theorem dX8_rank_0 : decode cX8_rank 0 = .ok (.aload_n 0, 1) := by decide +kernel
theorem dX8_rank_1 : decode cX8_rank 1 = .ok (.invokevirtual 146, 3) := by decide +kernel
theorem dX8_rank_4 : decode cX8_rank 4 = .ok (.aload_n 0, 1) := by decide +kernel
theorem dX8_rank_5 : decode cX8_rank 5 = .ok (.getfield 130, 3) := by decide +kernel
theorem dX8_rank_8 : decode cX8_rank 8 = .ok (.ireturn, 1) := by decide +kernel
set_option maxRecDepth 20000 in
theorem ggX8_look_X8_throwing : GoodIn wsX8_look wsX8_throwing := goodIn_r _ [8, 9, 64, 65, 66, 67, 68, 69, 70, 71, 72, 73, 74, 75, 76, 77, 78, 79, 80, 81, 82, 83] (by decide +kernel) (by decide +kernel)
set_option maxRecDepth 20000 in
theorem gX8_look_X8_throwing : GoodIn wsX8_look (wsV RX8 78 RX8 yX8_throwing wsX8_throwing) := goodIn_app (goodIn_of _ (by decide +kernel)) ggX8_look_X8_throwing
set_option maxRecDepth 20000 in
theorem ggX8_look_X8_groups : GoodIn wsX8_look wsX8_groups := goodIn_r _ [13, 1, 2, 14, 15, 16, 7, 17, 18, 19, 20, 21, 22, 23, 24, 25, 26, 27, 28, 64, 65, 66, 67, 68, 69, 70, 71, 72, 73, 74, 75, 76, 77, 78, 79, 80, 81, 82, 83] (by decide +kernel) (by decide +kernel)
set_option maxRecDepth 20000 in
theorem gX8_look_X8_groups : GoodIn wsX8_look (wsV RX8 74 RX8 yX8_groups wsX8_groups) := goodIn_app (goodIn_of _ (by decide +kernel)) ggX8_look_X8_groups
set_option maxRecDepth 20000 in
theorem ggX8_look_X8_dimension : GoodIn wsX8_look wsX8_dimension := goodIn_r _ [32, 2, 1, 10, 11, 12, 7, 13, 14, 15, 16, 17, 18, 19, 20, 21, 22, 23, 24, 25, 26, 27, 28, 64, 65, 66, 67, 68, 69, 70, 71, 72, 73, 74, 75, 76, 77, 78, 79, 80, 81, 82, 83] (by decide +kernel) (by decide +kernel)
set_option maxRecDepth 20000 in
theorem gX8_look_X8_dimension : GoodIn wsX8_look (wsV RX8 86 RX8 yX8_dimension wsX8_dimension) := goodIn_app (goodIn_of _ (by decide +kernel)) ggX8_look_X8_dimension
set_option maxRecDepth 20000 in
theorem ggX8_look_X8_alone : GoodIn wsX8_look wsX8_alone := goodIn_r _ [36, 2, 1, 10, 11, 12, 7, 13, 14, 15, 16, 17, 18, 19, 20, 21, 22, 23, 24, 25, 26, 27, 28, 64, 65, 66, 67, 68, 69, 70, 71, 72, 73, 74, 75, 76, 77, 78, 79, 80, 81, 82, 83] (by decide +kernel) (by decide +kernel)
set_option maxRecDepth 20000 in
theorem gX8_look_X8_alone : GoodIn wsX8_look (wsV RX8 149 RX8 yX8_alone wsX8_alone) := goodIn_app (goodIn_of _ (by decide +kernel)) ggX8_look_X8_alone
set_option maxRecDepth 20000 in
theorem ggX8_look_X8_areEven : GoodIn wsX8_look wsX8_areEven := goodIn_r _ [40, 18, 2, 27, 10, 11, 12, 7, 13, 1, 14, 15, 16, 17, 19, 20, 21, 22, 23, 24, 25, 26, 28, 64, 65, 66, 67, 68, 69, 70, 71, 72, 73, 74, 75, 76, 77, 78, 79, 80, 81, 82, 83] (by decide +kernel) (by decide +kernel)
set_option maxRecDepth 20000 in
theorem gX8_look_X8_areEven : GoodIn wsX8_look (wsV RX8 152 RX8 yX8_areEven wsX8_areEven) := goodIn_app (goodIn_of _ (by decide +kernel)) ggX8_look_X8_areEven
set_option maxRecDepth 20000 in
theorem ggX8_look_X8_rank : GoodIn wsX8_look wsX8_rank := goodIn_r _ [44, 45, 46, 47, 48, 7, 49, 3, 50, 51, 52, 53, 54, 55, 56, 57, 58, 59, 64, 65, 66, 67, 68, 69, 70, 71, 72, 73, 74, 75, 76, 77, 78, 79, 80, 81, 82, 83] (by decide +kernel) (by decide +kernel)
set_option maxRecDepth 20000 in
theorem gX8_look_X8_rank : GoodIn wsX8_look (wsV RX8 156 RX8 yX8_rank wsX8_rank) := goodIn_app (goodIn_of _ (by decide +kernel)) ggX8_look_X8_rank
set_option maxRecDepth 20000 in
theorem ggX8_look_X8_parting : GoodIn wsX8_look wsX8_parting := goodIn_r _ [63, 1, 2, 25, 26, 10, 11, 12, 7, 13, 14, 15, 16, 17, 18, 19, 20, 21, 22, 23, 24, 27, 28, 64, 65, 66, 67, 68, 69, 70, 71, 72, 73, 74, 75, 76, 77, 78, 79, 80, 81, 82, 83] (by decide +kernel) (by decide +kernel)
set_option maxRecDepth 20000 in
theorem gX8_look_X8_parting : GoodIn wsX8_look (wsV RX8 159 RX8 yX8_parting wsX8_parting) := goodIn_app (goodIn_of _ (by decide +kernel)) ggX8_look_X8_parting
theorem dX8_look_0 : decode cX8_look 0 = .ok (.aload_n 0, 1) := by decide +kernel
theorem dX8_look_1 : decode cX8_look 1 = .ok (.iload_n 1, 1) := by decide +kernel
theorem dX8_look_2 : decode cX8_look 2 = .ok (.ifCond .lt 9, 3) := by decide +kernel
theorem dX8_look_5 : decode cX8_look 5 = .ok (.iload_n 1, 1) := by decide +kernel
theorem dX8_look_6 : decode cX8_look 6 = .ok (.bipush 8, 2) := by decide +kernel
theorem dX8_look_8 : decode cX8_look 8 = .ok (.if_icmp .le 7, 3) := by decide +kernel
theorem dX8_look_11 : decode cX8_look 11 = .ok (.iconst 1, 1) := by decide +kernel
theorem dX8_look_12 : decode cX8_look 12 = .ok (.goto 4, 3) := by decide +kernel
theorem dX8_look_15 : decode cX8_look 15 = .ok (.iconst 0, 1) := by decide +kernel
theorem dX8_look_16 : decode cX8_look 16 = .ok (.iconst 0, 1) := by decide +kernel
theorem dX8_look_17 : decode cX8_look 17 = .ok (.invokevirtual 78, 3) := by decide +kernel
theorem dX8_look_20 : decode cX8_look 20 = .ok (.ifCond .eq 5, 3) := by decide +kernel
theorem dX8_look_23 : decode cX8_look 23 = .ok (.iconst 0, 1) := by decide +kernel
theorem dX8_look_24 : decode cX8_look 24 = .ok (.ireturn, 1) := by decide +kernel
theorem dX8_look_25 : decode cX8_look 25 = .ok (.iload_n 1, 1) := by decide +kernel
theorem dX8_look_26 : decode cX8_look 26 = .ok (.tableswitch 94 0 7 #[46, 51, 56, 61, 66, 71, 84, 89], 46) := by decide +kernel
theorem dX8_look_72 : decode cX8_look 72 = .ok (.aload_n 0, 1) := by decide +kernel
theorem dX8_look_73 : decode cX8_look 73 = .ok (.getfield 7, 3) := by decide +kernel
theorem dX8_look_76 : decode cX8_look 76 = .ok (.ireturn, 1) := by decide +kernel
theorem dX8_look_77 : decode cX8_look 77 = .ok (.aload_n 0, 1) := by decide +kernel
theorem dX8_look_78 : decode cX8_look 78 = .ok (.getfield 61, 3) := by decide +kernel
theorem dX8_look_81 : decode cX8_look 81 = .ok (.ireturn, 1) := by decide +kernel
theorem dX8_look_82 : decode cX8_look 82 = .ok (.aload_n 0, 1) := by decide +kernel
theorem dX8_look_83 : decode cX8_look 83 = .ok (.invokevirtual 74, 3) := by decide +kernel
theorem dX8_look_86 : decode cX8_look 86 = .ok (.ireturn, 1) := by decide +kernel
theorem dX8_look_87 : decode cX8_look 87 = .ok (.aload_n 0, 1) := by decide +kernel
theorem dX8_look_88 : decode cX8_look 88 = .ok (.invokevirtual 86, 3) := by decide +kernel
theorem dX8_look_91 : decode cX8_look 91 = .ok (.ireturn, 1) := by decide +kernel
theorem dX8_look_92 : decode cX8_look 92 = .ok (.aload_n 0, 1) := by decide +kernel
theorem dX8_look_93 : decode cX8_look 93 = .ok (.invokevirtual 149, 3) := by decide +kernel
theorem dX8_look_96 : decode cX8_look 96 = .ok (.ireturn, 1) := by decide +kernel
theorem dX8_look_97 : decode cX8_look 97 = .ok (.aload_n 0, 1) := by decide +kernel
theorem dX8_look_98 : decode cX8_look 98 = .ok (.invokevirtual 152, 3) := by decide +kernel
theorem dX8_look_101 : decode cX8_look 101 = .ok (.ifCond .eq 7, 3) := by decide +kernel
theorem dX8_look_104 : decode cX8_look 104 = .ok (.iconst 1, 1) := by decide +kernel
theorem dX8_look_105 : decode cX8_look 105 = .ok (.goto 4, 3) := by decide +kernel
theorem dX8_look_108 : decode cX8_look 108 = .ok (.iconst 0, 1) := by decide +kernel
theorem dX8_look_109 : decode cX8_look 109 = .ok (.ireturn, 1) := by decide +kernel
theorem dX8_look_110 : decode cX8_look 110 = .ok (.aload_n 0, 1) := by decide +kernel
theorem dX8_look_111 : decode cX8_look 111 = .ok (.getfield 143, 3) := by decide +kernel
theorem dX8_look_114 : decode cX8_look 114 = .ok (.ireturn, 1) := by decide +kernel
theorem dX8_look_115 : decode cX8_look 115 = .ok (.aload_n 0, 1) := by decide +kernel
theorem dX8_look_116 : decode cX8_look 116 = .ok (.invokevirtual 156, 3) := by decide +kernel
theorem dX8_look_119 : decode cX8_look 119 = .ok (.ireturn, 1) := by decide +kernel
theorem dX8_look_120 : decode cX8_look 120 = .ok (.aload_n 0, 1) := by decide +kernel
theorem dX8_look_121 : decode cX8_look 121 = .ok (.invokevirtual 159, 3) := by decide +kernel
theorem dX8_look_124 : decode cX8_look 124 = .ok (.ireturn, 1) := by decide +kernel
abbrev vwCl : List vw_C := [(RX0, TX0, 1), (RX1, TX1, 1), (RX2, TX2, 5), (RX3, TX3, 4), (RX4, TX4, 6), (RX5, TX5, 3), (RX6, TX6, 2), (RX7, TX7, 8), (RX8, TX8, 20)]
end
section
/-! rows on bits, shifts and unsigned numbers, to paste: each family out of a closed proof of our own, whole with what it rests on; each by itself clean at Lean in its own claim (generation 39, form 5). Take a family whole -/
/-! ===== Int32 by its bits: bt x i ===== -/
def bt (x : Int32) (i : Nat) : Bool := x.toBitVec.getLsbD i
theorem b_ext {x y : Int32} (h : ∀ i, i < 32 → bt x i = bt y i) : x = y := Int32.toBitVec_inj.mp (BitVec.eq_of_getLsbD_eq (fun i hi => h i hi))
theorem b_or (x y : Int32) (i : Nat) : bt (x ||| y) i = (bt x i || bt y i) := by unfold bt; rw [Int32.toBitVec_or, BitVec.getLsbD_or]
theorem b_and (x y : Int32) (i : Nat) : bt (x &&& y) i = (bt x i && bt y i) := by unfold bt; rw [Int32.toBitVec_and, BitVec.getLsbD_and]
theorem b_xor (x y : Int32) (i : Nat) : bt (x ^^^ y) i = (bt x i ^^ bt y i) := by unfold bt; rw [Int32.toBitVec_xor, BitVec.getLsbD_xor]
theorem b_big {x : Int32} {i : Nat} (h : 32 ≤ i) : bt x i = false := BitVec.getLsbD_of_ge _ _ h
theorem b_255 (i : Nat) : bt 255 i = decide (i < 8) := by
  rcases Nat.lt_or_ge i 32 with h | h
  · exact (by decide +kernel : ∀ i, i < 32 → bt 255 i = decide (i < 8)) i h
  · rw [b_big h, decide_eq_false (by omega)]
theorem b_65535 (i : Nat) : bt 65535 i = decide (i < 16) := by
  rcases Nat.lt_or_ge i 32 with h | h
  · exact (by decide +kernel : ∀ i, i < 32 → bt 65535 i = decide (i < 16)) i h
  · rw [b_big h, decide_eq_false (by omega)]
theorem b_m1 : ∀ i, i < 32 → bt (-1) i = true := by decide +kernel
theorem b_0 (i : Nat) : bt 0 i = false := BitVec.getLsbD_zero
theorem s_l : ∀ n, n < 32 → ((nI n &&& 31).toBitVec.smod 32).toNat = n := by decide +kernel
theorem s_u : ∀ n, n < 32 → (((nI n).toUInt32 &&& Int32.toUInt32 31).toBitVec % 32).toNat = n := by decide +kernel
theorem b_shl (n : Nat) (hn : n < 32) (x : Int32) {i : Nat} (hi : i < 32) : bt (x <<< (nI n &&& 31)) i = (decide (n ≤ i) && bt x (i - n)) := by
  unfold bt
  rw [Int32.toBitVec_shiftLeft]
  show (x.toBitVec <<< ((nI n &&& 31).toBitVec.smod 32).toNat).getLsbD i = _
  rw [s_l n hn, BitVec.getLsbD_shiftLeft]
  rcases Nat.lt_or_ge i n with h | h
  · simp [h, Nat.not_le.mpr h]
  · simp [hi, h, Nat.not_lt.mpr h]
theorem b_ushr (n : Nat) (hn : n < 32) (x : Int32) (i : Nat) : bt ((x.toUInt32 >>> ((nI n).toUInt32 &&& Int32.toUInt32 31)).toInt32) i = bt x (n + i) := by
  show (x.toUInt32 >>> ((nI n).toUInt32 &&& Int32.toUInt32 31)).toBitVec.getLsbD i = x.toUInt32.toBitVec.getLsbD (n + i)
  rw [UInt32.toBitVec_shiftRight]
  show (x.toUInt32.toBitVec >>> (((nI n).toUInt32 &&& Int32.toUInt32 31).toBitVec % 32).toNat).getLsbD i = _
  rw [s_u n hn, BitVec.getLsbD_ushiftRight]
theorem b_sshr (n : Nat) (hn : n < 32) (x : Int32) {i : Nat} (hi : i < 32) : bt (x >>> (nI n &&& 31)) i = if n + i < 32 then bt x (n + i) else bt x 31 := by
  unfold bt
  rw [Int32.toBitVec_shiftRight]
  show (x.toBitVec.sshiftRight ((nI n &&& 31).toBitVec.smod 32).toNat).getLsbD i = _
  rw [s_l n hn, BitVec.getLsbD_sshiftRight, BitVec.msb_eq_getLsbD_last]
  simp [hi]
theorem b_shl8 (x : Int32) {i : Nat} (hi : i < 32) : bt (x <<< ((8 : Int32) &&& 31)) i = (decide (8 ≤ i) && bt x (i - 8)) := b_shl 8 (by omega) x hi
theorem b_shl16 (x : Int32) {i : Nat} (hi : i < 32) : bt (x <<< ((16 : Int32) &&& 31)) i = (decide (16 ≤ i) && bt x (i - 16)) := b_shl 16 (by omega) x hi
theorem b_shl24 (x : Int32) {i : Nat} (hi : i < 32) : bt (x <<< ((24 : Int32) &&& 31)) i = (decide (24 ≤ i) && bt x (i - 24)) := b_shl 24 (by omega) x hi
theorem b_sshr8 (x : Int32) {i : Nat} (hi : i < 32) : bt (x >>> ((8 : Int32) &&& 31)) i = if 8 + i < 32 then bt x (8 + i) else bt x 31 := b_sshr 8 (by omega) x hi
/-! ===== nI under and, xor, >>>, one bit, 65535 ===== -/
theorem nx_and (a b : Nat) : nI a &&& nI b = nI (a &&& b) := by
  apply Int32.toBitVec_inj.1
  show BitVec.ofNat 32 a &&& BitVec.ofNat 32 b = BitVec.ofNat 32 (a &&& b)
  apply BitVec.eq_of_getLsbD_eq
  intro i hi
  simp [hi]
theorem nx_xor (a b : Nat) : nI a ^^^ nI b = nI (a ^^^ b) := by
  apply Int32.toBitVec_inj.1
  show BitVec.ofNat 32 a ^^^ BitVec.ofNat 32 b = BitVec.ofNat 32 (a ^^^ b)
  apply BitVec.eq_of_getLsbD_eq
  intro i hi
  simp [hi]
theorem nx_cnt : ∀ j : Fin 32, (UInt32.ofNat j.val &&& Int32.toUInt32 31).toNat % 32 = j.val := by decide +kernel
theorem nx_ush {k j : Nat} (hk : k < 65536) (hj : j < 32) : ((nI k).toUInt32 >>> ((nI j).toUInt32 &&& Int32.toUInt32 31)).toInt32 = nI (k >>> j) := by
  have hs : k >>> j ≤ k := by
    rw [Nat.shiftRight_eq_div_pow]
    exact Nat.div_le_self _ _
  have e2 : UInt32.ofNat k >>> (UInt32.ofNat j &&& Int32.toUInt32 31) = UInt32.ofNat (k >>> j) := by
    apply UInt32.toNat_inj.1
    have h1 : (UInt32.ofNat k).toNat = k := Nat.mod_eq_of_lt (by omega)
    have h2 : (UInt32.ofNat (k >>> j)).toNat = k >>> j := Nat.mod_eq_of_lt (by omega)
    rw [UInt32.toNat_shiftRight, nx_cnt ⟨j, hj⟩, h1, h2]
  show (UInt32.ofNat k >>> (UInt32.ofNat j &&& Int32.toUInt32 31)).toInt32 = _
  rw [e2]
  rfl
theorem nx_bit {k j : Nat} (hk : k < 65536) (hj : j < 16) : (((nI k).toUInt32 >>> ((nI j).toUInt32 &&& Int32.toUInt32 31)).toInt32 &&& 1) = 0 ↔ k.testBit j = false := by
  rw [nx_ush hk (by omega)]
  show nI (k >>> j) &&& nI 1 = 0 ↔ _
  rw [nx_and, Nat.and_one_is_mod, ← nI_0, nI_eq (by omega) (by omega), Nat.testBit_eq_decide_div_mod_eq, Nat.shiftRight_eq_div_pow, decide_eq_false_iff_not]
  generalize k / 2 ^ j = z
  omega
theorem nx_mod (k : Nat) : nI k &&& 65535 = nI (k % 65536) := by
  show nI k &&& nI 65535 = _
  rw [nx_and, show (65535 : Nat) = 2 ^ 16 - 1 from rfl, Nat.and_two_pow_sub_one_eq_mod]
theorem nx_m16 {k : Nat} (h : k < 65536) : nI k &&& 65535 = nI k := by rw [nx_mod, Nat.mod_eq_of_lt h]
theorem nx_mask (x : Int32) : ∃ k, k < 65536 ∧ x &&& 65535 = nI k := by
  have e : x = nI x.toBitVec.toNat := by
    apply Int32.toBitVec_inj.1
    show x.toBitVec = BitVec.ofNat 32 x.toBitVec.toNat
    simp
  refine ⟨x.toBitVec.toNat % 65536, Nat.mod_lt _ (by omega), ?_⟩
  rw [← nx_mod, ← e]
/-! ===== Int32 as a set of bits: test, set ===== -/
def nf_M (m : Int32) : Nat := 4294967296 - m.toBitVec.toNat
theorem nf_sh : ∀ l, l < 32 → ((1 : Int32) <<< (nI l &&& 31)).toBitVec = BitVec.twoPow 32 l := by decide +kernel
theorem nf_sl : ∀ l, l < 32 → (((nI l).toUInt32 &&& Int32.toUInt32 31).toBitVec % 32).toNat = l := by decide +kernel
theorem nf_tp : ∀ l, l < 32 → BitVec.twoPow 32 l ≠ 0#32 := by decide +kernel
theorem nf_bit (m : Int32) (l : Nat) (hl : l < 32) : ((m.toUInt32 >>> ((nI l).toUInt32 &&& Int32.toUInt32 31)).toInt32 &&& 1) = 0 ↔ (m &&& ((1 : Int32) <<< (nI l &&& 31))) = 0 := by
  have e : ((m.toUInt32 >>> ((nI l).toUInt32 &&& Int32.toUInt32 31)).toInt32).toBitVec = m.toBitVec >>> l := by
    show m.toBitVec >>> (((nI l).toUInt32 &&& Int32.toUInt32 31).toBitVec % 32) = m.toBitVec >>> l
    rw [BitVec.ushiftRight_eq', nf_sl l hl]
  rw [← Int32.toBitVec_inj, ← Int32.toBitVec_inj, Int32.toBitVec_and, Int32.toBitVec_and, nf_sh l hl, e, BitVec.and_twoPow]
  show (m.toBitVec >>> l &&& 1#32) = 0#32 ↔ _ = 0#32
  rw [BitVec.and_one_eq_setWidth_ofBool_getLsbD, BitVec.getLsbD_ushiftRight, Nat.add_zero]
  cases hb : m.toBitVec.getLsbD l
  · exact ⟨fun _ => by simp, fun _ => by decide⟩
  · exact ⟨fun z => absurd z (by decide), fun z => absurd ((if_pos rfl).symm.trans z) (nf_tp l hl)⟩
theorem nf_gr (m k : Int32) (h : m &&& k = 0) (hk : k ≠ 0) : nf_M (m ||| k) < nf_M m := by
  have hm := m.toBitVec.isLt
  have hm' := (m ||| k).toBitVec.isLt
  have h1 : m.toBitVec.toNat ≤ (m ||| k).toBitVec.toNat := by
    rw [Int32.toBitVec_or, BitVec.toNat_or]
    exact Nat.left_le_or
  have h2 : m.toBitVec.toNat ≠ (m ||| k).toBitVec.toNat := by
    intro e
    have e2 : m = m ||| k := Int32.toBitVec_inj.mp (BitVec.eq_of_toNat_eq e)
    apply hk
    apply Int32.toBitVec_inj.mp
    show k.toBitVec = 0#32
    apply BitVec.eq_of_getLsbD_eq
    intro i hi
    have a : m.toBitVec.getLsbD i = (m.toBitVec.getLsbD i || k.toBitVec.getLsbD i) := by rw [← BitVec.getLsbD_or, ← Int32.toBitVec_or, ← e2]
    have b : (m.toBitVec.getLsbD i && k.toBitVec.getLsbD i) = false := by
      rw [← BitVec.getLsbD_and, ← Int32.toBitVec_and, h]
      exact BitVec.getLsbD_zero
    rw [BitVec.getLsbD_zero]
    revert a b
    cases m.toBitVec.getLsbD i <;> cases k.toBitVec.getLsbD i <;> simp
  unfold nf_M
  omega
/-! ===== a byte read unsigned ===== -/
theorem bp_b (x : Int32) : x.toInt8.toInt32 &&& 255 = x &&& 255 := by
  apply Int32.toBitVec_inj.mp
  rw [Int32.toBitVec_and, Int32.toBitVec_and, Int8.toBitVec_toInt32, Int32.toBitVec_toInt8]
  apply BitVec.eq_of_getLsbD_eq
  intro i hi
  rw [BitVec.getLsbD_and, BitVec.getLsbD_and]
  have hm : ∀ i < 32, 8 ≤ i → (255 : Int32).toBitVec.getLsbD i = false := by decide
  rcases Nat.lt_or_ge i 8 with z | z
  · rw [BitVec.getLsbD_signExtend, BitVec.getLsbD_signExtend, if_pos z, if_pos hi]
    simp only [z, hi, decide_true, Bool.true_and]
  · rw [hm i hi z]; simp
/-! ===== the char cast and 65535 ===== -/
/-! ===== Int64 as a set of bits: test, set, clear ===== -/
theorem ts_nf {x : Bool} (h : ¬ x = false) : x = true := by cases x <;> first | rfl | exact absurd rfl h
theorem ts_nt {x : Bool} (h : ¬ x = true) : x = false := by cases x <;> first | rfl | exact absurd rfl h
theorem ts_bit {w : Int64} {s : UInt64} {j : Nat} (hj : j < 64) (hs : s.toNat = j) : ((w.toUInt64 >>> s).toInt64 &&& 1) = 0 ↔ w.toBitVec.getLsbD j = false := by
  have e : (w.toUInt64 >>> s).toInt64.toBitVec = w.toBitVec >>> j := by
    apply BitVec.eq_of_toNat_eq
    show (w.toUInt64 >>> s).toNat = _
    rw [UInt64.toNat_shiftRight, hs, Nat.mod_eq_of_lt hj, BitVec.toNat_ushiftRight]
    rfl
  rw [← Int64.toBitVec_inj, Int64.toBitVec_and, e]
  show w.toBitVec >>> j &&& 1#64 = 0#64 ↔ _
  constructor
  · intro h
    have t := congrArg (fun x => x.getLsbD 0) h
    simpa using t
  · intro h
    apply BitVec.eq_of_getLsbD_eq
    intro i hi
    cases i with
    | zero => simp [h]
    | succ i => simp
theorem ts_or {w m : Int64} {j : Nat} (hj : j < 64) (hm : m.toBitVec = BitVec.twoPow 64 j) : (w ||| m) = w ↔ w.toBitVec.getLsbD j = true := by
  rw [← Int64.toBitVec_inj, Int64.toBitVec_or, hm]
  constructor
  · intro h
    have t := congrArg (fun x => x.getLsbD j) h
    simp only [BitVec.getLsbD_or, BitVec.getLsbD_twoPow] at t
    simpa [hj] using t.symm
  · intro h
    apply BitVec.eq_of_getLsbD_eq
    intro i hi
    rw [BitVec.getLsbD_or, BitVec.getLsbD_twoPow]
    by_cases e : j = i
    · subst e; rw [h, Bool.true_or]
    · simp [e]
theorem ts_and {w m : Int64} {j : Nat} (hj : j < 64) (hm : m.toBitVec = BitVec.twoPow 64 j) : (w &&& (m ^^^ (-1))) = w ↔ w.toBitVec.getLsbD j = false := by
  have ha : (-1 : Int64).toBitVec = BitVec.allOnes 64 := by decide
  rw [← Int64.toBitVec_inj, Int64.toBitVec_and, Int64.toBitVec_xor, hm, ha]
  constructor
  · intro h
    have t := congrArg (fun x => x.getLsbD j) h
    simp only [BitVec.getLsbD_and, BitVec.getLsbD_xor, BitVec.getLsbD_twoPow, BitVec.getLsbD_allOnes] at t
    simpa [hj] using t.symm
  · intro h
    apply BitVec.eq_of_getLsbD_eq
    intro i hi
    rw [BitVec.getLsbD_and, BitVec.getLsbD_xor, BitVec.getLsbD_twoPow, BitVec.getLsbD_allOnes]
    by_cases e : j = i
    · subst e; rw [h, Bool.false_and]
    · simp [e, hi]
/-! ===== lN n to 2^64: shifts, and, or, masks, one bit ===== -/
theorem wb_tb (n : Nat) : (lN n).toBitVec = BitVec.ofNat 64 n := rfl
theorem wb_inj {a b : Int64} (h : a.toBitVec = b.toBitVec) : a = b := Int64.toBitVec_inj.mp h
theorem wb_tn {n : Nat} (h : n < 2 ^ 64) : (lN n).toBitVec.toNat = n := by rw [wb_tb, BitVec.toNat_ofNat, Nat.mod_eq_of_lt h]
theorem wb_of (x : Int64) : ∃ n, n < 2 ^ 64 ∧ x = lN n := ⟨x.toBitVec.toNat, x.toBitVec.isLt, wb_inj (by rw [wb_tb]; simp)⟩
theorem wb_of32 (x : Int32) : ∃ n, n < 2 ^ 32 ∧ x = nI n := ⟨x.toBitVec.toNat, x.toBitVec.isLt, Int32.toBitVec_inj.mp (by show _ = BitVec.ofNat 32 _; simp)⟩
theorem wb_c : ∀ k, k < 64 → ((nI k).toInt64 &&& 63) = lN k := by decide +kernel
theorem wb_cu : ∀ k, k < 64 → ((nI k).toInt64.toUInt64 &&& Int64.toUInt64 63) = UInt64.ofNat k := by decide +kernel
theorem wb_sm : ∀ k, k < 64 → (BitVec.ofNat 64 k).smod 64 = BitVec.ofNat 64 k := by decide +kernel
theorem wb_pw {a b : Nat} (h : a ≤ b) : 2 ^ b = 2 ^ a * 2 ^ (b - a) := by rw [← Nat.pow_add]; congr 1; omega
theorem wb_lt2 {a b : Nat} (h : a < b) : 2 ^ a < 2 ^ b := Nat.pow_lt_pow_right (by decide) h
theorem wb_mod (n : Nat) : lN n = lN (n % 2 ^ 64) := wb_inj (by rw [wb_tb, wb_tb]; apply BitVec.eq_of_toNat_eq; rw [BitVec.toNat_ofNat, BitVec.toNat_ofNat, Nat.mod_mod])
theorem wb_shr {n k : Nat} (hn : n < 2 ^ 64) (hk : k < 64) : ((lN n).toUInt64 >>> ((nI k).toInt64.toUInt64 &&& Int64.toUInt64 63)).toInt64 = lN (n / 2 ^ k) := by
  rw [wb_cu k hk]
  apply wb_inj
  apply BitVec.eq_of_toNat_eq
  show ((lN n).toUInt64 >>> UInt64.ofNat k).toNat = (BitVec.ofNat 64 _).toNat
  have h1 : (UInt64.ofNat k).toNat = k := by
    show (BitVec.ofNat 64 k).toNat = k
    rw [BitVec.toNat_ofNat, Nat.mod_eq_of_lt (by omega)]
  have h2 : (lN n).toUInt64.toNat = n := wb_tn hn
  rw [UInt64.toNat_shiftRight, h1, h2, Nat.mod_eq_of_lt hk, Nat.shiftRight_eq_div_pow, BitVec.toNat_ofNat, Nat.mod_eq_of_lt (Nat.lt_of_le_of_lt (Nat.div_le_self _ _) hn)]
theorem wb_shl (n : Nat) {k : Nat} (hk : k < 64) : lN n <<< ((nI k).toInt64 &&& 63) = lN (n * 2 ^ k) := by
  rw [wb_c k hk]
  apply wb_inj
  rw [Int64.toBitVec_shiftLeft, wb_tb, wb_tb, wb_tb, wb_sm k hk]
  apply BitVec.eq_of_toNat_eq
  rw [BitVec.shiftLeft_eq', BitVec.toNat_shiftLeft, BitVec.toNat_ofNat, BitVec.toNat_ofNat, BitVec.toNat_ofNat, Nat.mod_eq_of_lt (show k < 2 ^ 64 by omega), Nat.shiftLeft_eq, Nat.mul_mod, Nat.mod_mod, ← Nat.mul_mod]
theorem wb_and {a b : Nat} (ha : a < 2 ^ 64) (hb : b < 2 ^ 64) : lN a &&& lN b = lN (a &&& b) := by
  apply wb_inj
  rw [Int64.toBitVec_and, wb_tb, wb_tb, wb_tb]
  apply BitVec.eq_of_toNat_eq
  rw [BitVec.toNat_and, BitVec.toNat_ofNat, BitVec.toNat_ofNat, BitVec.toNat_ofNat, Nat.mod_eq_of_lt ha, Nat.mod_eq_of_lt hb, Nat.mod_eq_of_lt (Nat.and_lt_two_pow _ hb)]
theorem wb_or {a b : Nat} (ha : a < 2 ^ 64) (hb : b < 2 ^ 64) : lN a ||| lN b = lN (a ||| b) := by
  apply wb_inj
  rw [Int64.toBitVec_or, wb_tb, wb_tb, wb_tb]
  apply BitVec.eq_of_toNat_eq
  rw [BitVec.toNat_or, BitVec.toNat_ofNat, BitVec.toNat_ofNat, BitVec.toNat_ofNat, Nat.mod_eq_of_lt ha, Nat.mod_eq_of_lt hb, Nat.mod_eq_of_lt (Nat.or_lt_two_pow ha hb)]
theorem wb_mask {n k : Nat} (hn : n < 2 ^ 64) (hk : k < 64) : lN n &&& lN (2 ^ k - 1) = lN (n % 2 ^ k) := by
  rw [wb_and hn (by have := wb_lt2 hk; omega), Nat.and_two_pow_sub_one_eq_mod]
theorem wb_a1 {n : Nat} (hn : n < 2 ^ 64) : lN n &&& 1 = lN (n % 2) := wb_mask (k := 1) hn (by decide)
theorem wb_bit {n k : Nat} (hn : n < 2 ^ 64) (hk : k < 64) : ((lN n).toUInt64 >>> ((nI k).toInt64.toUInt64 &&& Int64.toUInt64 63)).toInt64 &&& 1 = lN (n / 2 ^ k % 2) := by
  rw [wb_shr hn hk, wb_a1 (Nat.lt_of_le_of_lt (Nat.div_le_self _ _) hn)]
theorem wb_xor {q k : Nat} (hk : k < 63) (h : 2 ^ k ≤ q) (h2 : q < 2 ^ (k + 1)) : lN q ^^^ lN (2 ^ k) = lN (q - 2 ^ k) := by
  obtain ⟨r, rfl⟩ : ∃ r, q = 2 ^ k + r := ⟨q - 2 ^ k, by omega⟩
  have hr : r < 2 ^ k := by rw [Nat.pow_succ] at h2; omega
  have hx : (2 ^ k + r) ^^^ 2 ^ k = r := by
    apply Nat.eq_of_testBit_eq
    intro i
    rw [Nat.testBit_xor, Nat.testBit_two_pow]
    rcases Nat.lt_trichotomy i k with h | h | h
    · rw [Nat.testBit_two_pow_add_gt h]
      simp [show ¬ k = i by omega]
    · subst h
      rw [Nat.testBit_two_pow_add_eq]
      simp
    · have a1 : 2 ^ (k + 1) ≤ 2 ^ i := Nat.pow_le_pow_right (by decide) h
      rw [Nat.testBit_lt_two_pow (show 2 ^ k + r < 2 ^ i by omega), Nat.testBit_lt_two_pow (show r < 2 ^ i by omega)]
      simp [show ¬ k = i by omega]
  have b1 := wb_lt2 (show k + 1 < 64 by omega)
  have b2 := wb_lt2 (show k < 64 by omega)
  apply wb_inj
  rw [Int64.toBitVec_xor, wb_tb, wb_tb, wb_tb]
  apply BitVec.eq_of_toNat_eq
  rw [BitVec.toNat_xor, BitVec.toNat_ofNat, BitVec.toNat_ofNat, BitVec.toNat_ofNat, Nat.mod_eq_of_lt (by omega : 2 ^ k + r < 2 ^ 64), Nat.mod_eq_of_lt b2, hx, Nat.add_sub_cancel_left, Nat.mod_eq_of_lt (by omega)]
/-! ===== lN: masks, 'or' of parts that don't overlap is a sum ===== -/
theorem u_tn {n : Nat} (h : n < 2 ^ 64) : (UInt64.ofNat n).toNat = n := Nat.mod_eq_of_lt h
theorem g_and {a b c : Nat} (ha : a < 2 ^ 64) (hb : b < 2 ^ 64) (hc : a &&& b = c) : lN a &&& lN b = lN c := by
  subst hc
  have h : UInt64.ofNat a &&& UInt64.ofNat b = UInt64.ofNat (a &&& b) := UInt64.toNat_inj.mp (by rw [UInt64.toNat_and, u_tn ha, u_tn hb, u_tn (Nat.and_lt_two_pow a hb)])
  have h2 := congrArg UInt64.toInt64 h
  exact h2
theorem g_and1 {a : Nat} (ha : a < 2 ^ 64) : lN a &&& 1 = lN (a % 2) := g_and (b := 1) ha (by decide) (Nat.and_two_pow_sub_one_eq_mod a 1)
theorem g_mask {a s p : Nat} (hp : 2 ^ s = p) (hs : s < 64) (ha : a < 2 ^ 64) : lN a &&& lN (p - 1) = lN (a % p) := by
  subst hp
  have := Nat.pow_lt_pow_right (show 1 < 2 by decide) hs
  exact g_and ha (by omega) (Nat.and_two_pow_sub_one_eq_mod a s)
theorem g_or {k p a b : Nat} (hp : 2 ^ k = p) (ha : a < p) (h : b * p + a < 2 ^ 64) : lN (b * p) ||| lN a = lN (b * p + a) := by
  subst hp
  have h1 : b * 2 ^ k ||| a = b * 2 ^ k + a := by rw [← Nat.shiftLeft_eq, Nat.shiftLeft_add_eq_or_of_lt ha]
  have h3 : UInt64.ofNat (b * 2 ^ k) ||| UInt64.ofNat a = UInt64.ofNat (b * 2 ^ k + a) := UInt64.toNat_inj.mp (by rw [UInt64.toNat_or, u_tn (by omega), u_tn (by omega), u_tn h, h1])
  have h2 := congrArg UInt64.toInt64 h3
  exact h2
theorem g_or' {k p a b : Nat} (hp : 2 ^ k = p) (ha : a < p) (h : a + b * p < 2 ^ 64) : lN a ||| lN (b * p) = lN (a + b * p) := by
  rw [Int64.or_comm, g_or hp ha (by omega), Nat.add_comm]
theorem g_ushr {a k p : Nat} {y : UInt64} (hy : y = UInt64.ofNat k) (hk : k < 64) (hp : 2 ^ k = p) (ha : a < 2 ^ 64) : ((lN a).toUInt64 >>> y).toInt64 = lN (a / p) := by
  subst hy hp
  have h : UInt64.ofNat a >>> UInt64.ofNat k = UInt64.ofNat (a / 2 ^ k) := UInt64.toNat_inj.mp (by rw [UInt64.toNat_shiftRight, u_tn ha, u_tn (by omega), u_tn (Nat.lt_of_le_of_lt (Nat.div_le_self _ _) ha), Nat.mod_eq_of_lt hk, Nat.shiftRight_eq_div_pow])
  have h2 := congrArg UInt64.toInt64 h
  exact h2
theorem g_shl {a k p : Nat} {y : Int64} (hy : y.toBitVec.smod 64 = BitVec.ofNat 64 k) (hk : k < 64) (hp : 2 ^ k = p) (ha : a < 2 ^ 64) : lN a <<< y = lN (a * p) := by
  subst hp
  apply Int64.toBitVec_inj.mp
  rw [Int64.toBitVec_shiftLeft, hy]
  apply BitVec.eq_of_toNat_eq
  have hb : (lN a).toBitVec.toNat = a := Nat.mod_eq_of_lt ha
  have hk' : (BitVec.ofNat 64 k).toNat = k := Nat.mod_eq_of_lt (by omega)
  have h : ((lN a).toBitVec <<< BitVec.ofNat 64 k).toNat = (a * 2 ^ k) % 2 ^ 64 := by simp only [BitVec.shiftLeft_eq', BitVec.toNat_shiftLeft, hb, hk', Nat.shiftLeft_eq]
  exact h
/-! ===== lN to 2^62 under >> and >>> ===== -/
theorem pf_lI {a : Nat} (h : a < 2 ^ 63) : (lN a).toInt = (a : Int) := lg_ofNat_toInt h
theorem pf_shr {a d : Nat} {D : Int64} (hD : (D.toBitVec.smod 64).toNat = d) (h : a < 2 ^ 62) : lN a >>> D = lN (a / 2 ^ d) := by
  have hd : a / 2 ^ d ≤ a := Nat.div_le_self _ _
  apply Int64.toInt_inj.mp
  have e : (lN a >>> D).toInt = (lN a).toInt >>> d := by
    rw [← hD]
    exact BitVec.toInt_sshiftRight ..
  rw [e, Int.shiftRight_eq_div_pow, pf_lI (by omega), pf_lI (by omega)]
  rfl
theorem pf_ushr {a d : Nat} {D : UInt64} (hD : D.toNat % 64 = d) (h : a < 2 ^ 62) : ((lN a).toUInt64 >>> D).toInt64 = lN (a / 2 ^ d) := by
  have hd : a / 2 ^ d ≤ a := Nat.div_le_self _ _
  have e : (lN a).toUInt64 >>> D = UInt64.ofNat (a / 2 ^ d) := UInt64.toNat_inj.mp (by
    rw [UInt64.toNat_shiftRight, hD, Nat.shiftRight_eq_div_pow, UInt64.toNat_ofNat']
    show (UInt64.ofNat a).toNat / 2 ^ d = _
    rw [UInt64.toNat_ofNat', Nat.mod_eq_of_lt (by omega), Nat.mod_eq_of_lt (by omega)])
  rw [e]
  rfl
theorem pf_andw (x : Int64) : ∃ m, m < 2 ^ 32 ∧ x &&& 4294967295 = lN m := ⟨x.toBitVec.toNat % 2 ^ 32, Nat.mod_lt _ (by decide), Int64.toBitVec_inj.mp (BitVec.eq_of_toNat_eq (by
  show (x.toBitVec &&& 4294967295#64).toNat = (BitVec.ofNat 64 (x.toBitVec.toNat % 2 ^ 32)).toNat
  rw [BitVec.toNat_and, show (4294967295#64).toNat = 2 ^ 32 - 1 from by decide, Nat.and_two_pow_sub_one_eq_mod, BitVec.toNat_ofNat]
  omega))⟩
/-! ===== Int64 as an unsigned number: uN x ===== -/
def uN (x : Int64) : Nat := x.toUInt64.toNat
theorem uN_lt (x : Int64) : uN x < 18446744073709551616 := x.toUInt64.toNat_lt
theorem uN_inj {x y : Int64} (h : uN x = uN y) : x = y := congrArg UInt64.toInt64 (UInt64.toNat_inj.mp h)
theorem uN_add (x y : Int64) : uN (x + y) = (uN x + uN y) % 18446744073709551616 := by
  show (x.toUInt64 + y.toUInt64).toNat = _
  exact UInt64.toNat_add _ _
theorem uN_mul (x y : Int64) : uN (x * y) = (uN x * uN y) % 18446744073709551616 := by
  show (x.toUInt64 * y.toUInt64).toNat = _
  exact UInt64.toNat_mul _ _
theorem uN_shl (x : Int64) : uN (x <<< ((1 : Int32).toInt64 &&& 63)) = (2 * uN x) % 18446744073709551616 := by
  have h : (((1 : Int32).toInt64 &&& 63).toBitVec.smod 64).toNat = 1 := by decide
  show (x.toBitVec <<< (((1 : Int32).toInt64 &&& 63).toBitVec.smod 64).toNat).toNat = _
  rw [h, BitVec.toNat_shiftLeft, Nat.shiftLeft_eq, Nat.mul_comm]
  rfl
theorem uN_shr (x : Int64) (s : UInt64) : uN (x.toUInt64 >>> s).toInt64 = uN x / 2 ^ (s.toNat % 64) := by
  show (x.toUInt64 >>> s).toNat = _
  rw [UInt64.toNat_shiftRight, Nat.shiftRight_eq_div_pow]
  rfl
theorem uN_s32 (x : Int64) : uN (x.toUInt64 >>> ((32 : Int32).toInt64.toUInt64 &&& Int64.toUInt64 63)).toInt64 = uN x / 4294967296 := by
  have h : ((32 : Int32).toInt64.toUInt64 &&& Int64.toUInt64 63).toNat % 64 = 32 := by decide
  rw [uN_shr, h]
theorem uN_s63 (x : Int64) : uN (x.toUInt64 >>> ((63 : Int32).toInt64.toUInt64 &&& Int64.toUInt64 63)).toInt64 = uN x / 9223372036854775808 := by
  have h : ((63 : Int32).toInt64.toUInt64 &&& Int64.toUInt64 63).toNat % 64 = 63 := by decide
  rw [uN_shr, h]
theorem uN_lo (x : Int64) : uN (x &&& 4294967295) = uN x % 4294967296 := by
  show (x.toUInt64 &&& Int64.toUInt64 4294967295).toNat = _
  rw [UInt64.toNat_and]
  exact Nat.and_two_pow_sub_one_eq_mod _ 32
theorem uN_bit (x : Int64) : (x &&& 1) = 0 ↔ uN x % 2 = 0 := by
  have h : uN (x &&& 1) = uN x % 2 := by
    show (x.toUInt64 &&& Int64.toUInt64 1).toNat = _
    rw [UInt64.toNat_and]
    exact Nat.and_two_pow_sub_one_eq_mod _ 1
  rw [← h]
  exact ⟨fun z => by rw [z]; rfl, fun z => uN_inj (z.trans rfl)⟩
theorem uN_or {x y : Int64} (hy : uN y < 2) : uN ((x <<< ((1 : Int32).toInt64 &&& 63)) ||| y) = (2 * uN x) % 18446744073709551616 + uN y := by
  have h1 : uN ((x <<< ((1 : Int32).toInt64 &&& 63)) ||| y) = uN (x <<< ((1 : Int32).toInt64 &&& 63)) ||| uN y := UInt64.toNat_or _ _
  have h2 : (2 * uN x) % 18446744073709551616 = 2 ^ 1 * (uN x % 9223372036854775808) := by omega
  rw [h1, uN_shl, h2]
  exact (Nat.two_pow_add_eq_or_of_lt (i := 1) hy _).symm
theorem nat_xor {a : Nat} (h : a < 18446744073709551616) : a ^^^ 2 ^ 63 = (a + 9223372036854775808) % 18446744073709551616 := by
  have h1 : (a ^^^ 2 ^ 63) % 2 ^ 63 = a % 2 ^ 63 := by rw [Nat.xor_mod_two_pow, Nat.mod_self, Nat.xor_zero]
  have h2 : (a ^^^ 2 ^ 63) / 2 ^ 63 = (a / 2 ^ 63) ^^^ 1 := by rw [Nat.xor_div_two_pow, Nat.div_self (Nat.two_pow_pos 63)]
  have h3 : a / 2 ^ 63 = 0 ∨ a / 2 ^ 63 = 1 := by omega
  generalize a ^^^ 2 ^ 63 = t at h1 h2
  rcases h3 with h3 | h3
  · rw [h3] at h2
    have h2 : t / 2 ^ 63 = 1 := h2
    omega
  · rw [h3] at h2
    have h2 : t / 2 ^ 63 = 0 := h2
    omega
theorem uN_xor (x : Int64) : uN (x ^^^ (-9223372036854775808)) = (uN x + 9223372036854775808) % 18446744073709551616 := by
  rw [← nat_xor (uN_lt x)]
  exact UInt64.toNat_xor _ _
theorem uN_int (x : Int64) : x.toInt = if 2 * uN x < 18446744073709551616 then (uN x : Int) else (uN x : Int) - 18446744073709551616 := BitVec.toInt_eq_toNat_cond _
theorem uN_le (x y : Int64) : (x ^^^ (-9223372036854775808)) ≤ (y ^^^ (-9223372036854775808)) ↔ uN x ≤ uN y := by
  have hx := uN_lt x
  have hy := uN_lt y
  rw [Int64.le_iff_toInt_le, uN_int, uN_int, uN_xor, uN_xor]
  omega
theorem uN_sk (x : Int64) {k : Nat} (hk : k < 64) : uN (x.toUInt64 >>> ((nI k).toInt64.toUInt64 &&& Int64.toUInt64 63)).toInt64 = uN x / 2 ^ k := by
  have h : ((nI k).toInt64.toUInt64 &&& Int64.toUInt64 63).toNat % 64 = k := by
    rw [nI_l (by omega), UInt64.toNat_and]
    have e : (lN k).toUInt64.toNat = k % 2 ^ 64 := rfl
    have e2 : (Int64.toUInt64 63).toNat = 2 ^ 6 - 1 := by decide
    rw [e, e2, Nat.and_two_pow_sub_one_eq_mod]
    omega
  rw [uN_shr, h]
/-! ===== unsigned comparison by xor with the least ===== -/
theorem lN_bv (n : Nat) : (lN n).toBitVec = BitVec.ofNat 64 n := rfl
theorem lN_nat {n : Nat} (h : n < 2 ^ 64) : (lN n).toBitVec.toNat = n := by rw [lN_bv, BitVec.toNat_ofNat]; exact Nat.mod_eq_of_lt h
theorem lN_xor (a b : Nat) : lN a ^^^ lN b = lN (a ^^^ b) := by
  apply Int64.toBitVec_inj.mp; rw [Int64.toBitVec_xor, lN_bv, lN_bv, lN_bv]; apply BitVec.eq_of_getLsbD_eq; intro i hi; simp [BitVec.getLsbD_ofNat, Nat.testBit_xor, hi]
theorem lN_ti {m : Nat} (h : m < 2 ^ 64) : (lN m).toInt = if m < 2 ^ 63 then (m : Int) else (m : Int) - 2 ^ 64 := by
  have c := BitVec.toInt_eq_toNat_cond (lN m).toBitVec
  rw [lN_nat h] at c
  show (lN m).toBitVec.toInt = _
  rw [c]
  split <;> split <;> omega
theorem xor63 {x : Nat} (h : x < 2 ^ 63) : x ^^^ 2 ^ 63 = 2 ^ 63 + x := by
  apply Nat.eq_of_testBit_eq
  intro i
  rw [Nat.testBit_xor, Nat.testBit_two_pow]
  rcases Nat.lt_trichotomy i 63 with z | z | z
  · rw [Nat.testBit_two_pow_add_gt z, decide_eq_false (by omega)]; simp
  · subst z; rw [Nat.testBit_two_pow_add_eq]; simp
  · have hp : 2 ^ 64 ≤ 2 ^ i := Nat.pow_le_pow_right (by decide) z
    rw [Nat.testBit_lt_two_pow (show x < 2 ^ i by omega), Nat.testBit_lt_two_pow (show 2 ^ 63 + x < 2 ^ i by omega), decide_eq_false (by omega)]; rfl
theorem xorS {a : Nat} (h : a < 2 ^ 64) : (lN a ^^^ (-9223372036854775808)).toInt = (a : Int) - 2 ^ 63 := by
  rw [show (-9223372036854775808 : Int64) = lN (2 ^ 63) from by decide +kernel, lN_xor]
  rcases Nat.lt_or_ge a (2 ^ 63) with z | z
  · rw [xor63 z, lN_ti (by omega), if_neg (by omega)]; omega
  · obtain ⟨x, rfl⟩ : ∃ x, a = 2 ^ 63 + x := ⟨a - 2 ^ 63, by omega⟩
    rw [← xor63 (by omega), Nat.xor_assoc, Nat.xor_self, Nat.xor_zero, lN_ti (by omega), if_pos (by omega), xor63 (by omega)]; omega
theorem ultL {a b : Nat} (ha : a < 2 ^ 64) (hb : b < 2 ^ 64) : ((lN b ^^^ (-9223372036854775808)) ≤ (lN a ^^^ (-9223372036854775808))) ↔ b ≤ a := by
  rw [Int64.le_iff_toInt_le, xorS ha, xorS hb]; omega
/-! ===== Int64 masks of n low bits ===== -/
theorem cr_bits (W U M : BitVec 64) : ((W &&& U) &&& (U &&& (M ^^^ BitVec.allOnes 64))) = 0#64 ↔ (W &&& U) &&& M = W &&& U := by
  constructor
  · intro h
    apply BitVec.eq_of_getLsbD_eq
    intro i hi
    have e := congrArg (fun x => BitVec.getLsbD x i) h
    simp only [BitVec.getLsbD_and, BitVec.getLsbD_xor, BitVec.getLsbD_allOnes, BitVec.getLsbD_zero, hi, decide_true] at e ⊢
    revert e
    cases W.getLsbD i <;> cases U.getLsbD i <;> cases M.getLsbD i <;> decide
  · intro h
    apply BitVec.eq_of_getLsbD_eq
    intro i hi
    have e := congrArg (fun x => BitVec.getLsbD x i) h
    simp only [BitVec.getLsbD_and, BitVec.getLsbD_xor, BitVec.getLsbD_allOnes, BitVec.getLsbD_zero, hi, decide_true] at e ⊢
    revert e
    cases W.getLsbD i <;> cases U.getLsbD i <;> cases M.getLsbD i <;> decide
theorem cr_mask (w U m : Int64) (n : Nat) (hm : m.toBitVec.toNat = 2 ^ n - 1) : ((w &&& U) &&& (U &&& (m ^^^ (-1)))) = 0 ↔ (w &&& U).toBitVec.toNat < 2 ^ n := by
  have e0 : (-1 : Int64).toBitVec = BitVec.allOnes 64 := by decide
  have z0 : (0 : Int64).toBitVec = 0#64 := by decide
  rw [← Int64.toBitVec_inj, z0, Int64.toBitVec_and, Int64.toBitVec_and, Int64.toBitVec_and, Int64.toBitVec_xor, e0, cr_bits]
  generalize w.toBitVec &&& U.toBitVec = T
  rw [← BitVec.toNat_inj, BitVec.toNat_and, hm, Nat.and_two_pow_sub_one_eq_mod]
  constructor
  · intro h
    have t := Nat.mod_lt T.toNat (Nat.two_pow_pos n)
    rw [h] at t
    exact t
  · exact Nat.mod_eq_of_lt
theorem cr_shr (t : Int64) (x : UInt64) (n : Nat) (hx : x.toNat % 64 = n) : (t.toUInt64 >>> x).toInt64 = 0 ↔ t.toBitVec.toNat < 2 ^ n := by
  rw [← Int64.toBitVec_inj, ← BitVec.toNat_inj]
  show (t.toUInt64 >>> x).toNat = 0 ↔ t.toUInt64.toNat < 2 ^ n
  rw [UInt64.toNat_shiftRight, hx, Nat.shiftRight_eq_div_pow]
  constructor
  · intro h
    have d : t.toUInt64.toNat / 2 ^ n < 1 := by
      rw [h]
      decide
    have e := (Nat.div_lt_iff_lt_mul (Nat.two_pow_pos n)).mp d
    rw [Nat.one_mul] at e
    exact e
  · exact Nat.div_eq_of_lt
theorem cr_amt (s : Int64) : ∃ n, n < 64 ∧ s &&& 63 = lN n ∧ (s.toUInt64 &&& Int64.toUInt64 63).toNat % 64 = n := by
  have e : (s.toUInt64 &&& Int64.toUInt64 63).toNat = s.toUInt64.toNat % 2 ^ 6 := by
    rw [UInt64.toNat_and, show (Int64.toUInt64 63).toNat = 2 ^ 6 - 1 from by decide, Nat.and_two_pow_sub_one_eq_mod]
  refine ⟨s.toUInt64.toNat % 2 ^ 6, by omega, ?_, by omega⟩
  rw [← Int64.toBitVec_inj, ← BitVec.toNat_inj]
  show (s.toUInt64 &&& Int64.toUInt64 63).toNat = (BitVec.ofNat 64 (s.toUInt64.toNat % 2 ^ 6)).toNat
  rw [e, BitVec.toNat_ofNat]
  omega
end
section
-- the nest's words, as data, so that they move in one lemma
def nwF : List (String × Nat × String × String × String × String) := [(RX1, 16, "CycleHouse$Graph", "vertices", "I", "CycleHouse"), (RX6, 18, "CycleHouse$Graph", "vertices", "I", "CycleHouse"), (RX4, 47, "CycleHouse$Graph", "vertices", "I", "CycleHouse"), (RX7, 205, "CycleHouse$Graph", "vertices", "I", "CycleHouse"), (RX7, 69, "CycleHouse$Graph", "edges", "I", "CycleHouse"), (RX1, 28, "CycleHouse$Graph", "edges", "I", "CycleHouse"), (RX0, 22, "CycleHouse$Graph", "edges", "I", "CycleHouse"), (RX6, 30, "CycleHouse$Graph", "edges", "I", "CycleHouse"), (RX4, 58, "CycleHouse$Graph", "edges", "I", "CycleHouse"), (RX0, 28, "CycleHouse$Graph", "from", "[I", "CycleHouse"), (RX1, 37, "CycleHouse$Graph", "from", "[I", "CycleHouse"), (RX3, 26, "CycleHouse$Graph", "from", "[I", "CycleHouse"), (RX6, 33, "CycleHouse$Graph", "from", "[I", "CycleHouse"), (RX4, 65, "CycleHouse$Graph", "from", "[I", "CycleHouse"), (RX7, 141, "CycleHouse$Graph", "from", "[I", "CycleHouse"), (RX0, 32, "CycleHouse$Graph", "to", "[I", "CycleHouse"), (RX1, 40, "CycleHouse$Graph", "to", "[I", "CycleHouse"), (RX3, 31, "CycleHouse$Graph", "to", "[I", "CycleHouse"), (RX6, 37, "CycleHouse$Graph", "to", "[I", "CycleHouse"), (RX4, 69, "CycleHouse$Graph", "to", "[I", "CycleHouse"), (RX7, 149, "CycleHouse$Graph", "to", "[I", "CycleHouse"), (RX6, 40, "CycleHouse$Graph", "weight", "[I", "CycleHouse"), (RX4, 82, "CycleHouse$Graph", "weight", "[I", "CycleHouse"), (RX7, 158, "CycleHouse$Graph", "weight", "[I", "CycleHouse"), (RX7, 192, "CycleHouse$SetList", "sets", "I", "CycleHouse"), (RX7, 218, "CycleHouse$SetList", "rank", "I", "CycleHouse"), (RX7, 244, "CycleHouse$Groups", "count", "I", "CycleHouse"), (RX1, 31, "CycleHouse$Groups", "name", "[I", "CycleHouse"), (RX4, 79, "CycleHouse$Ways", "length", "[J", "CycleHouse"), (RX7, 155, "CycleHouse$Ways", "length", "[J", "CycleHouse"), (RX4, 72, "CycleHouse$Ways", "way", "[J", "CycleHouse"), (RX7, 167, "CycleHouse$LightBasis", "weight", "[J", "CycleHouse")]
def nwM : List (String × Nat × MethodName × String) := [(RX2, 28, yX7_has, "CycleHouse"), (RX5, 38, yX7_has, "CycleHouse")]
def nwOK (U : State) : Prop := (∀ q ∈ nwF, va_Nw (.fieldLinkNest q.1 q.2.1 q.2.2.1 q.2.2.2.1 q.2.2.2.2.1 q.2.2.2.2.2) U) ∧ ∀ q ∈ nwM, va_Nw (.methodLinkNest q.1 q.2.1 q.2.2.1 q.2.2.2) U
theorem nwOK.moved {s U : State} (hW : s.WarmedH U.vm) (h : nwOK s) : nwOK U := ⟨fun q hq => va_Nw.warmF hW (h.1 q hq), fun q hq => va_Nw.warmM hW (h.2 q hq)⟩
theorem nwOK.same {s U : State} (hW : s.vm = U.vm) (h : nwOK s) : nwOK U := ⟨fun q hq => va_Nw.same rfl hW (h.1 q hq), fun q hq => va_Nw.same rfl hW (h.2 q hq)⟩
theorem nwOK.f {s : State} (h : nwOK s) {A : Array Value} (a : String) (i : Nat) (b n d t : String) (hq : (a, i, b, n, d, t) ∈ nwF) : (Cond.fieldLinkNest a i b n d t).before A s = true := va_Nw.use rfl (h.1 _ hq)
theorem nwOK.m {s : State} (h : nwOK s) (a : String) (i : Nat) (y : MethodName) (t : String) (hq : (a, i, y, t) ∈ nwM) : va_Nw (.methodLinkNest a i y t) s := h.2 _ hq
-- contracts over a world that is a function of a state u
def ctB {σ : Type} (G : va_G) (tys : List (ClassId × FieldType)) (Wd : σ → va_W) (A : Nat → Prop) (u : σ) (t : State) : Prop := va_P G vwCl (Wd u) t.heap ∧ va_K G vwCl tys t ∧ va_D A (Wd u)
def ctP {σ : Type} (G : va_G) (tys : List (ClassId × FieldType)) (Wd : σ → va_W) (av : List Value) (u : σ) (sz : Nat) : Array Value → State → Prop := va_Pc av (fun U => U.heap.size = sz ∧ va_P G vwCl (Wd u) U.heap ∧ va_K G vwCl tys U ∧ va_D (fun _ => True) (Wd u) ∧ nwOK U)
abbrev ctR (rm : Nat × Nat) : Room := { frames := rm.1, cells := 0, slots := 0, locals := rm.2 }
def ctI {σ : Type} (l : Launch) (G : va_G) (tys : List (ClassId × FieldType)) (Wd : σ → va_W) (y : MethodName) (ws : List Cond) (rm : Nat × Nat) (av : List Value) (u : σ) (post : Int32 → σ → Prop) : Prop :=
  ∀ sz : Nat, Met l y ws (ctR rm) (ctP G tys Wd av u sz) (va_Qi post (ctB G tys Wd (va_A (Wd u) sz)) (va_A (Wd u) sz)) 0 0 (va_A (Wd u) sz)
def ctL {σ : Type} (l : Launch) (G : va_G) (tys : List (ClassId × FieldType)) (Wd : σ → va_W) (y : MethodName) (ws : List Cond) (rm : Nat × Nat) (av : List Value) (u : σ) (post : Int64 → σ → Prop) : Prop :=
  ∀ sz : Nat, Met l y ws (ctR rm) (ctP G tys Wd av u sz) (va_Ql post (ctB G tys Wd (va_A (Wd u) sz)) (va_A (Wd u) sz)) 0 0 (va_A (Wd u) sz)
def ctV {σ : Type} (l : Launch) (G : va_G) (tys : List (ClassId × FieldType)) (Wd : σ → va_W) (y : MethodName) (ws : List Cond) (rm : Nat × Nat) (av : List Value) (u : σ) (post : σ → Prop) : Prop :=
  ∀ sz : Nat, Met l y ws (ctR rm) (ctP G tys Wd av u sz) (va_Qv post (ctB G tys Wd (va_A (Wd u) sz)) (va_A (Wd u) sz)) 0 0 (va_A (Wd u) sz)
/-- the body's head, whatever the answer: Q is a name, the way out a hypothesis -/
theorem ct_head {σ : Type} {l : Launch} {G : va_G} {tys : List (ClassId × FieldType)} {Wd : σ → va_W} {y : MethodName} {ws ws' : List Cond} {rm : Nat × Nat} {av : List Value} {u : σ} {sz : Nat} {Qc : Array Value → State → Outcome → State → Prop} {cc : ByteArray} {maxL : Nat} {ret : Option FieldType}
    (hy : plainName y.cls = true) (hw : ws = Cond.code y cc maxL ret :: ws') (hav : (lg_sl av).length ≤ maxL)
    (body : ∀ (p : Program) (e : Env) (s : State) (m : MethodId) (below : List Frame) (meth : Method) (c : Code) (ls : Array Slot), s.heap.size = sz → CallFix p m c cc maxL s av.toArray ws y.cls → meth.sig.returnType = ret → meth.locks = false → va_K G vwCl tys s → nwOK s → va_P G vwCl (Wd u) s.heap → va_D (va_A (Wd u) sz) (Wd u) → (∀ q, s.heap.size ≤ q → (va_A (Wd u) sz) q) → lv_has ls maxL (lv_args 0 av) →
      W p l e (ctR rm) s m av.toArray below meth c s.heap [] 0 0 (MQ below Qc av.toArray s 0 0 (va_A (Wd u) sz)) (F0 m 0 ls [])) : Met l y ws (ctR rm) (ctP G tys Wd av u sz) Qc 0 0 (va_A (Wd u) sz) := by
  refine Met.ofW (cc := cc) (maxL := maxL) (ret := ret) hy hw ?_
  intro p e s m args below meth c s₁ B hml hv
  obtain ⟨rfl, hsz, hP, hK, hD0, hN⟩ := hv
  have hts := atoms_spec (ws := ws) B.pre
  have hown : s.vm.findClass y.cls = some m.cls := findClass_of_methodNamed B.named
  have hD := hD0.self (sz := sz)
  have hA : ∀ q : Nat, s.heap.size ≤ q → va_A (Wd u) sz q := fun q h => Or.inr (hsz ▸ h)
  have hl := lv_entry av (n := maxL) hav
  rw [lg_entry_eq]
  exact body p e s m below meth c _ hsz ⟨B.exec, B.bytes, hml, hown, hts⟩ B.returns B.notSynchronized hK hN hP hD hA hl
theorem ctI_intro {σ : Type} {l : Launch} {G : va_G} {tys : List (ClassId × FieldType)} {Wd : σ → va_W} {y : MethodName} {ws ws' : List Cond} {rm : Nat × Nat} {av : List Value} {u : σ} {post : Int32 → σ → Prop} {cc : ByteArray} {maxL : Nat} {ty : FieldType}
    (hy : plainName y.cls = true) (hw : ws = Cond.code y cc maxL (some ty) :: ws') (hav : (lg_sl av).length ≤ maxL)
    (body : ∀ (p : Program) (e : Env) (s : State) (m : MethodId) (below : List Frame) (meth : Method) (c : Code) (ls : Array Slot) (Aa : Nat → Prop) (Q : State → Prop), CallFix p m c cc maxL s av.toArray ws y.cls → va_K G vwCl tys s → nwOK s → va_P G vwCl (Wd u) s.heap → va_D Aa (Wd u) → va_S Aa s.heap s.heap [] → (∀ q, s.heap.size ≤ q → Aa q) → lv_has ls maxL (lv_args 0 av) →
      (∀ (pc : Nat) (ls : Array Slot) (H : Heap) (locs : List Loc) (v : Int32) (u' : σ), decode cc pc = .ok (.ireturn, 1) → narrow ty (.int v) = .int v → post v u' → va_P G vwCl (Wd u') H → va_D Aa (Wd u') → va_S Aa s.heap H locs → W p l e (ctR rm) s m av.toArray below meth c H locs 0 0 Q (F0 m pc ls [.int v])) →
      W p l e (ctR rm) s m av.toArray below meth c s.heap [] 0 0 Q (F0 m 0 ls [])) : ctI l G tys Wd y ws rm av u post := by
  intro sz
  refine ct_head (cc := cc) (maxL := maxL) (ret := some ty) hy hw hav ?_
  intro p e s m below meth c ls hsz F hr hlocks hK hN hP hD hA hl
  refine body p e s m below meth c ls (va_A (Wd u) sz) _ F hK hN hP hD va_S.rf hA hl ?_
  intro pc ls H locs v u' hd hn hp hP hD hS
  exact W.zret F.1 F.2.1 hr hn (fun t ht hW => ⟨⟨v, u', rfl, hp, by rw [ht]; exact hP, va_K.moved hW.alike hK, hD⟩, hS.F ht⟩) hS.2.2 hd hlocks
theorem ctL_intro {σ : Type} {l : Launch} {G : va_G} {tys : List (ClassId × FieldType)} {Wd : σ → va_W} {y : MethodName} {ws ws' : List Cond} {rm : Nat × Nat} {av : List Value} {u : σ} {post : Int64 → σ → Prop} {cc : ByteArray} {maxL : Nat}
    (hy : plainName y.cls = true) (hw : ws = Cond.code y cc maxL (some .long) :: ws') (hav : (lg_sl av).length ≤ maxL)
    (body : ∀ (p : Program) (e : Env) (s : State) (m : MethodId) (below : List Frame) (meth : Method) (c : Code) (ls : Array Slot) (Aa : Nat → Prop) (Q : State → Prop), CallFix p m c cc maxL s av.toArray ws y.cls → va_K G vwCl tys s → nwOK s → va_P G vwCl (Wd u) s.heap → va_D Aa (Wd u) → va_S Aa s.heap s.heap [] → (∀ q, s.heap.size ≤ q → Aa q) → lv_has ls maxL (lv_args 0 av) →
      (∀ (pc : Nat) (ls : Array Slot) (H : Heap) (locs : List Loc) (v : Int64) (u' : σ), decode cc pc = .ok (.lreturn, 1) → post v u' → va_P G vwCl (Wd u') H → va_D Aa (Wd u') → va_S Aa s.heap H locs → W p l e (ctR rm) s m av.toArray below meth c H locs 0 0 Q (F0 m pc ls [.long v])) →
      W p l e (ctR rm) s m av.toArray below meth c s.heap [] 0 0 Q (F0 m 0 ls [])) : ctL l G tys Wd y ws rm av u post := by
  intro sz
  refine ct_head (cc := cc) (maxL := maxL) (ret := some .long) hy hw hav ?_
  intro p e s m below meth c ls hsz F hr hlocks hK hN hP hD hA hl
  refine body p e s m below meth c ls (va_A (Wd u) sz) _ F hK hN hP hD va_S.rf hA hl ?_
  intro pc ls H locs v u' hd hp hP hD hS
  exact W.lret F.1 F.2.1 hr (fun t ht hW => ⟨⟨v, u', rfl, hp, by rw [ht]; exact hP, va_K.moved hW.alike hK, hD⟩, hS.F ht⟩) hS.2.2 hd hlocks
theorem ctV_intro {σ : Type} {l : Launch} {G : va_G} {tys : List (ClassId × FieldType)} {Wd : σ → va_W} {y : MethodName} {ws ws' : List Cond} {rm : Nat × Nat} {av : List Value} {u : σ} {post : σ → Prop} {cc : ByteArray} {maxL : Nat}
    (hy : plainName y.cls = true) (hw : ws = Cond.code y cc maxL none :: ws') (hav : (lg_sl av).length ≤ maxL)
    (body : ∀ (p : Program) (e : Env) (s : State) (m : MethodId) (below : List Frame) (meth : Method) (c : Code) (ls : Array Slot) (Aa : Nat → Prop) (Q : State → Prop), CallFix p m c cc maxL s av.toArray ws y.cls → va_K G vwCl tys s → nwOK s → va_P G vwCl (Wd u) s.heap → va_D Aa (Wd u) → va_S Aa s.heap s.heap [] → (∀ q, s.heap.size ≤ q → Aa q) → lv_has ls maxL (lv_args 0 av) →
      (∀ (pc : Nat) (ls : Array Slot) (H : Heap) (locs : List Loc) (u' : σ), decode cc pc = .ok (.return_, 1) → post u' → va_P G vwCl (Wd u') H → va_D Aa (Wd u') → va_S Aa s.heap H locs → W p l e (ctR rm) s m av.toArray below meth c H locs 0 0 Q (F0 m pc ls [])) →
      W p l e (ctR rm) s m av.toArray below meth c s.heap [] 0 0 Q (F0 m 0 ls [])) : ctV l G tys Wd y ws rm av u post := by
  intro sz
  refine ct_head (cc := cc) (maxL := maxL) (ret := none) hy hw hav ?_
  intro p e s m below meth c ls hsz F hr hlocks hK hN hP hD hA hl
  refine body p e s m below meth c ls (va_A (Wd u) sz) _ F hK hN hP hD va_S.rf hA hl ?_
  intro pc ls H locs u' hd hp hP hD hS
  exact W.vret F.1 F.2.1 hr (fun t ht hW => ⟨⟨u', rfl, hp, by rw [ht]; exact hP, va_K.moved hW.alike hK, hD⟩, hS.F ht⟩) hS.2.2 hd hlocks
theorem ct_free {A0 : Nat → Prop} {ws : va_W} {H0 H : Heap} {locs : List Loc} (hD : va_D A0 ws) (hS : va_S A0 H0 H locs) (hA : ∀ q, H0.size ≤ q → A0 q) : ∀ q, va_A ws H.size q → A0 q := by
  rintro q (⟨k, e, hk⟩ | hq)
  · exact hD.2 k _ hk
  · exact hA q (Nat.le_trans hS.1 hq)
theorem ct_blind {σ : Type} {G : va_G} {tys : List (ClassId × FieldType)} {Wd : σ → va_W} {av : List Value} {u : σ} {sz : Nat} : FrameBlind (ctP G tys Wd av u sz) := by
  intro a U g mk q
  obtain ⟨q0, q1, qP, qK, qD, qN⟩ := q
  exact ⟨q0, q1, qP, va_K.moved (u := U) (U := U.calling g mk a) (Vm.Alike.refl U.vm) qK, qD, nwOK.same (s := U) (U := U.calling g mk a) rfl qN⟩
theorem ct_preS {σ : Type} {G : va_G} {tys : List (ClassId × FieldType)} {Wd : σ → va_W} {As : List Value} {u : σ} {s : State} {H : Heap} {A : Nat → Prop} (hK : va_K G vwCl tys s) (hN : nwOK s) (hP : va_P G vwCl (Wd u) H) (hD : va_D A (Wd u)) : PreS s H (ctP G tys Wd As u H.size) As :=
  ⟨ct_blind, fun U hU hW => ⟨rfl, by rw [hU], by rw [hU]; exact hP, va_K.moved hW.alike hK, hD.weaken (fun _ _ _ _ => trivial), nwOK.moved hW hN⟩⟩
theorem ct_preV {σ : Type} {G : va_G} {tys : List (ClassId × FieldType)} {Wd : σ → va_W} {As : List Value} {u : σ} {s : State} {H : Heap} {A : Nat → Prop} {C : String} {T : u_T} {NN b : Nat} {fs : List Value} (q0 ci : Nat) (hK : va_K G vwCl tys s) (hN : nwOK s) (hP : va_P G vwCl (Wd u) H) (hD : va_D A (Wd u)) (hc : vwCl[ci]? = some (C, T, NN)) (he : (Wd u)[q0]? = some (b, .inr (ci, fs))) : PreV s H C b (ctP G tys Wd (.ref b :: As) u H.size) As :=
  ⟨ct_blind, va_recv hK hP hc he, fun U hU hW => ⟨rfl, by rw [hU], by rw [hU]; exact hP, va_K.moved hW.alike hK, hD.weaken (fun _ _ _ _ => trivial), nwOK.moved hW hN⟩⟩
section CT
variable {p : Program} {l : Launch} {e : Env} {R : Room} {s : State} {m : MethodId} {args : Array Value} {below : List Frame} {meth : Method} {c : Code} {H : Heap} {locs : List Loc} {cells slots : Nat} {Q : State → Prop} {pc : Nat} {ls : Array Slot} {st0 rest : List Value} {A : Nat → Prop} {H0 : Heap} {a : Array Value}
theorem ct_calli {σ : Type} {G : va_G} {tys : List (ClassId × FieldType)} {Wd : σ → va_W} {u : σ} {post : Int32 → σ → Prop}
    (hD : va_D A (Wd u)) (hS : va_S A H0 H locs) (hA : ∀ q, H0.size ≤ q → A q)
    (hr : va_Run p l e R s m args below meth c H locs cells slots 0 0 (F0 m pc ls st0) rest (va_Qi post (ctB G tys Wd (va_A (Wd u) H.size)) (va_A (Wd u) H.size) a) (va_A (Wd u) H.size))
    (kk : ∀ (r : Int32) (u' : σ) (H1 : Heap) (locs1 : List Loc), post r u' → va_P G vwCl (Wd u') H1 → va_D A (Wd u') → va_S A H0 H1 locs1 → W p l e R s m args below meth c H1 locs1 cells slots Q (F0 m (pc + 3) ls (.int r :: rest))) : W p l e R s m args below meth c H locs cells slots Q (F0 m pc ls st0) := by
  have hF := ct_free hD hS hA
  refine va_calli hr hS (fun q _ h => hF q h) hF (fun r u1 t H1 locs1 ht hvm hw hB hz1 hk1 hS1 => ?_)
  obtain ⟨hP1, hK1, hD1⟩ := hB
  rw [ht] at hP1
  exact kk r u1 H1 locs1 hw hP1 (hD1.weaken (fun k q h _ => hF _ (by first | exact hD1.2 k q h | assumption))) hS1
theorem ct_calll {σ : Type} {G : va_G} {tys : List (ClassId × FieldType)} {Wd : σ → va_W} {u : σ} {post : Int64 → σ → Prop}
    (hD : va_D A (Wd u)) (hS : va_S A H0 H locs) (hA : ∀ q, H0.size ≤ q → A q)
    (hr : va_Run p l e R s m args below meth c H locs cells slots 0 0 (F0 m pc ls st0) rest (va_Ql post (ctB G tys Wd (va_A (Wd u) H.size)) (va_A (Wd u) H.size) a) (va_A (Wd u) H.size))
    (kk : ∀ (r : Int64) (u' : σ) (H1 : Heap) (locs1 : List Loc), post r u' → va_P G vwCl (Wd u') H1 → va_D A (Wd u') → va_S A H0 H1 locs1 → W p l e R s m args below meth c H1 locs1 cells slots Q (F0 m (pc + 3) ls (.long r :: rest))) : W p l e R s m args below meth c H locs cells slots Q (F0 m pc ls st0) := by
  have hF := ct_free hD hS hA
  refine va_calll hr hS (fun q _ h => hF q h) hF (fun r u1 t H1 locs1 ht hvm hw hB hz1 hk1 hS1 => ?_)
  obtain ⟨hP1, hK1, hD1⟩ := hB
  rw [ht] at hP1
  exact kk r u1 H1 locs1 hw hP1 (hD1.weaken (fun k q h _ => hF _ (by first | exact hD1.2 k q h | assumption))) hS1
theorem ct_callv {σ : Type} {G : va_G} {tys : List (ClassId × FieldType)} {Wd : σ → va_W} {u : σ} {post : σ → Prop}
    (hD : va_D A (Wd u)) (hS : va_S A H0 H locs) (hA : ∀ q, H0.size ≤ q → A q)
    (hr : va_Run p l e R s m args below meth c H locs cells slots 0 0 (F0 m pc ls st0) rest (va_Qv post (ctB G tys Wd (va_A (Wd u) H.size)) (va_A (Wd u) H.size) a) (va_A (Wd u) H.size))
    (kk : ∀ (u' : σ) (H1 : Heap) (locs1 : List Loc), post u' → va_P G vwCl (Wd u') H1 → va_D A (Wd u') → va_S A H0 H1 locs1 → W p l e R s m args below meth c H1 locs1 cells slots Q (F0 m (pc + 3) ls rest)) : W p l e R s m args below meth c H locs cells slots Q (F0 m pc ls st0) := by
  have hF := ct_free hD hS hA
  refine va_callv hr hS (fun q _ h => hF q h) hF (fun u1 t H1 locs1 ht hvm hw hB hz1 hk1 hS1 => ?_)
  obtain ⟨hP1, hK1, hD1⟩ := hB
  rw [ht] at hP1
  exact kk u1 H1 locs1 hw hP1 (hD1.weaken (fun k q h _ => hF _ (by first | exact hD1.2 k q h | assumption))) hS1
end CT
-- the worlds
abbrev sgM : Type := (Nat → Int32) × (Nat → Nat → Int32) × (Nat → Nat → Int64)
abbrev sgH : Type := (Nat → Int32) × (Nat → Nat → Int32) × (Nat → Nat → Int64) × (Nat → Nat → Int32) × (Nat → Nat → Int64)
abbrev aI (c : ClassId) (n : Nat) (f : Nat → Int32) : va_E := .inl (c, n, .inl f)
abbrev aJ (c : ClassId) (n : Nat) (f : Nat → Int64) : va_E := .inl (c, n, .inr (.inl f))
abbrev MW (cI cJ cZ : ClassId) (R : Nat → Nat) (u : sgM) : va_W :=
  [(R 0, .inr (8, [.int (u.1 0), .int (u.1 1), .int (u.1 2), .ref (R 3), .ref (R 4), .ref (R 5), .ref (R 6), .int (u.1 7), .ref (R 8), .ref (R 9), .int (u.1 10), .ref (R 11), .ref (R 12), .ref (R 13), .ref (R 14), .ref (R 15), .int (u.1 16), .ref (R 17), .ref (R 18), .ref (R 19)])),
   (R 3, aI cI 40 (u.2.1 3)), (R 4, aI cI 40 (u.2.1 4)), (R 5, aI cI 40 (u.2.1 5)), (R 6, aJ cJ 64 (u.2.2 6)), (R 8, aI cI 16 (u.2.1 8)), (R 9, aJ cJ 16 (u.2.2 9)), (R 11, aJ cJ 40 (u.2.2 11)), (R 12, aI cI 40 (u.2.1 12)), (R 13, aJ cJ 16384 (u.2.2 13)), (R 14, aJ cJ 16384 (u.2.2 14)), (R 15, aJ cJ 64 (u.2.2 15)), (R 17, aJ cJ 256 (u.2.2 17)), (R 18, aI cI 16 (u.2.1 18)), (R 19, aI cZ 16 (u.2.1 19))]
abbrev gO (R : Nat → Nat) (b : Nat) : Nat → Option Nat := fun i => if i < 16 then some (R (b + i)) else none
abbrev aO (c : ClassId) (n : Nat) (g : Nat → Option Nat) : va_E := .inl (c, n, .inr (.inr (.inr (.inr g))))
abbrev HW (cI cJ cII cJJ : ClassId) (R : Nat → Nat) (u : sgH) : va_W :=
  [(R 0, .inr (7, [.ref (R 1), .ref (R 5), .ref (R 7), .ref (R 10), .ref (R 13), .ref (R 18), .ref (R 19), .ref (R 20)])),
   (R 1, .inr (2, [.int (u.1 0), .int (u.1 1), .ref (R 2), .ref (R 3), .ref (R 4)])), (R 2, aI cI 40 (u.2.1 2)), (R 3, aI cI 40 (u.2.1 3)), (R 4, aI cI 40 (u.2.1 4)),
   (R 5, .inr (5, [.int (u.1 2), .int (u.1 3), .ref (R 6)])), (R 6, aJ cJ 40 (u.2.2.1 6)),
   (R 7, .inr (3, [.int (u.1 4), .int (u.1 5), .ref (R 8), .ref (R 9)])), (R 8, aI cI 16 (u.2.1 8)), (R 9, aJ cJ 16 (u.2.2.1 9)),
   (R 10, .inr (6, [.ref (R 11), .ref (R 12)])), (R 11, aJ cJ 16 (u.2.2.1 11)), (R 12, aJ cJ 16 (u.2.2.1 12)),
   (R 13, .inr (4, [.int (u.1 6), .ref (R 14), .ref (R 15), .int (u.1 7), .ref (R 16), .ref (R 17)])), (R 14, aJ cJ 14 (u.2.2.1 14)), (R 15, aJ cJ 14 (u.2.2.1 15)), (R 16, aJ cJ 640 (u.2.2.1 16)), (R 17, aJ cJ 640 (u.2.2.1 17)),
   (R 18, .inr (1, [.ref (R 21)])), (R 19, .inr (0, [.ref (R 22)])), (R 20, aJ cJ 14 (u.2.2.1 20)), (R 21, aO cJJ 16 (gO R 100)), (R 22, aO cII 16 (gO R 200))]
  ++ ((List.range 16).map (fun i => (R (100 + i), aJ cJ 16 (u.2.2.2.2 i))) ++ (List.range 16).map (fun i => (R (200 + i), aI cI 16 (u.2.2.2.1 i))))
abbrev tyL (cI cJ cZ cII cJJ : ClassId) : List (ClassId × FieldType) := [(cI, .int), (cJ, .long), (cZ, .boolean), (cII, .array .int), (cJJ, .array .long)]
end
section
theorem up_self {α : Type} {f : Nat → α} {k : Nat} {v : α} : va_up f k v k = v := if_pos rfl
theorem up_ne {α : Type} {f : Nat → α} {k j : Nat} {v : α} (h : j ≠ k) : va_up f k v j = f j := if_neg h
-- sets of edges as numbers (bit e for edge e); parities, cuts, and the joining of edges
def xs : Nat → (Nat → Bool) → Bool
  | 0, _ => false
  | n + 1, f => xs n f ^^ f n
theorem xs_congr {n : Nat} {f g : Nat → Bool} (h : ∀ i, i < n → f i = g i) : xs n f = xs n g := by
  induction n with
  | zero => rfl
  | succ n ih => simp only [xs]; rw [ih (fun i hi => h i (by omega)), h n (by omega)]
theorem xs_xor (n : Nat) (f g : Nat → Bool) : xs n (fun i => f i ^^ g i) = (xs n f ^^ xs n g) := by
  induction n with
  | zero => rfl
  | succ n ih => simp only [xs]; rw [ih]; cases xs n f <;> cases xs n g <;> cases f n <;> cases g n <;> rfl
theorem xs_false (n : Nat) {f : Nat → Bool} (h : ∀ i, i < n → f i = false) : xs n f = false := by
  induction n with
  | zero => rfl
  | succ n ih => simp only [xs]; rw [ih (fun i hi => h i (by omega)), h n (by omega)]; rfl
theorem xs_one {n a : Nat} (ha : a < n) (f : Nat → Bool) (h : ∀ i, i < n → i ≠ a → f i = false) : xs n f = f a := by
  induction n with
  | zero => omega
  | succ n ih =>
    simp only [xs]
    by_cases e : a = n
    · subst e; rw [xs_false _ (fun i hi => h i (by omega) (by omega))]; cases f a <;> rfl
    · rw [ih (by omega) (fun i hi hne => h i (by omega) hne), h n (by omega) (by omega)]; cases f a <;> rfl
/-- how many ends at v, of the edges below 64 of a set, taken modulo two -/
def bd (fr to : Nat → Nat) (s v : Nat) : Bool := xs 64 (fun e => s.testBit e && ((fr e == v) ^^ (to e == v)))
/-- how many edges of a set cross S, modulo two -/
def cr (fr to : Nat → Nat) (s : Nat) (S : Nat → Bool) : Bool := xs 64 (fun e => s.testBit e && (S (fr e) ^^ S (to e)))
theorem bd_zero (fr to : Nat → Nat) (v : Nat) : bd fr to 0 v = false := xs_false _ (fun i _ => by simp)
theorem bd_xor (fr to : Nat → Nat) (s t v : Nat) : bd fr to (s ^^^ t) v = (bd fr to s v ^^ bd fr to t v) := by
  unfold bd
  rw [← xs_xor]
  refine xs_congr (fun i _ => ?_)
  rw [Nat.testBit_xor]
  cases s.testBit i <;> cases t.testBit i <;> cases ((fr i == v) ^^ (to i == v)) <;> rfl
theorem bd_pow {fr to : Nat → Nat} {e : Nat} (he : e < 64) (v : Nat) : bd fr to (2 ^ e) v = ((fr e == v) ^^ (to e == v)) := by
  unfold bd
  rw [xs_one he]
  · rw [Nat.testBit_two_pow_self]; simp
  · intro i _ hne
    rw [Nat.testBit_two_pow_of_ne (fun h => hne h.symm)]; rfl
theorem cr_xor (fr to : Nat → Nat) (s t : Nat) (S : Nat → Bool) : cr fr to (s ^^^ t) S = (cr fr to s S ^^ cr fr to t S) := by
  unfold cr
  rw [← xs_xor]
  refine xs_congr (fun i _ => ?_)
  rw [Nat.testBit_xor]
  cases s.testBit i <;> cases t.testBit i <;> cases (S (fr i) ^^ S (to i)) <;> rfl
theorem xs_pick {N a : Nat} (ha : a < N) (S : Nat → Bool) : xs N (fun v => S v && (a == v)) = S a := by
  rw [xs_one ha]
  · simp
  · intro i _ hne
    have : (a == i) = false := by simp; omega
    simp [this]
theorem xs_and (N : Nat) (b : Bool) (f : Nat → Bool) : xs N (fun v => b && f v) = (b && xs N f) := by
  induction N with
  | zero => cases b <;> rfl
  | succ n ih => simp only [xs]; rw [ih]; cases b <;> cases xs n f <;> cases f n <;> rfl
theorem xs_swap (m N : Nat) (f : Nat → Nat → Bool) : xs m (fun e => xs N (fun v => f e v)) = xs N (fun v => xs m (fun e => f e v)) := by
  induction m with
  | zero => simp only [xs]; exact (xs_false _ (fun _ _ => rfl)).symm
  | succ m ih => simp only [xs]; rw [ih, ← xs_xor]
/-- crossing, by the ends inside -/
theorem cr_bd {fr to : Nat → Nat} {N s : Nat} (hN : ∀ e, s.testBit e = true → fr e < N ∧ to e < N) (S : Nat → Bool) : cr fr to s S = xs N (fun v => S v && bd fr to s v) := by
  unfold cr bd
  have h1 : xs N (fun v => S v && xs 64 (fun e => s.testBit e && ((fr e == v) ^^ (to e == v)))) = xs N (fun v => xs 64 (fun e => S v && (s.testBit e && ((fr e == v) ^^ (to e == v))))) := xs_congr (fun v _ => (xs_and _ _ _).symm)
  rw [h1, ← xs_swap]
  refine xs_congr (fun e _ => ?_)
  cases hb : s.testBit e with
  | false => simp only [Bool.false_and, Bool.and_false]; exact (xs_false _ (fun _ _ => rfl)).symm
  | true =>
    obtain ⟨ha, hb'⟩ := hN e hb
    have h2 : xs N (fun v => S v && (true && ((fr e == v) ^^ (to e == v)))) = xs N (fun v => (S v && (fr e == v)) ^^ (S v && (to e == v))) := xs_congr (fun v _ => by cases S v <;> cases (fr e == v) <;> cases (to e == v) <;> rfl)
    rw [h2, xs_xor, xs_pick ha, xs_pick hb']; rfl
theorem cr_even {fr to : Nat → Nat} {N s : Nat} (hN : ∀ e, s.testBit e = true → fr e < N ∧ to e < N) (h : ∀ v, bd fr to s v = false) (S : Nat → Bool) : cr fr to s S = false := by
  rw [cr_bd hN]
  exact xs_false _ (fun v _ => by rw [h v]; simp)
theorem cr_ends {fr to : Nat → Nat} {N s a b : Nat} (hN : ∀ e, s.testBit e = true → fr e < N ∧ to e < N) (ha : a < N) (hb : b < N) (h : ∀ v, bd fr to s v = ((a == v) ^^ (b == v))) (S : Nat → Bool) : cr fr to s S = (S a ^^ S b) := by
  rw [cr_bd hN]
  have h2 : xs N (fun v => S v && bd fr to s v) = xs N (fun v => (S v && (a == v)) ^^ (S v && (b == v))) := xs_congr (fun v _ => by rw [h v]; cases S v <;> cases (a == v) <;> cases (b == v) <;> rfl)
  rw [h2, xs_xor, xs_pick ha, xs_pick hb]
/-- groups' names, ways, how many rings closed so far, the rings, their closing edges -/
abbrev JS : Type := (Nat → Nat) × (Nat → Nat) × Nat × (Nat → Nat) × (Nat → Nat)
def j0 : JS := (fun v => v, fun _ => 0, 0, fun _ => 0, fun _ => 0)
def jr (q : JS) (a b e : Nat) : Nat := q.2.1 a ^^^ q.2.1 b ^^^ 2 ^ e
def jStep (a b e : Nat) (q : JS) : JS :=
  if q.1 a = q.1 b then (q.1, q.2.1, q.2.2.1 + 1, va_up q.2.2.2.1 q.2.2.1 (jr q a b e), va_up q.2.2.2.2 q.2.2.1 e)
  else (fun v => if q.1 v = q.1 b then q.1 a else q.1 v, fun v => if q.1 v = q.1 b then q.2.1 v ^^^ jr q a b e else q.2.1 v, q.2.2.1, q.2.2.2.1, q.2.2.2.2)
def jRun (fr to : Nat → Nat) (s : Nat) : Nat → JS
  | 0 => j0
  | k + 1 => if s.testBit k then jStep (fr k) (to k) k (jRun fr to s k) else jRun fr to s k
/-- what holds of the joining of the edges below k of a set s, among vertices below N -/
def jOK (fr to : Nat → Nat) (N s k : Nat) (q : JS) : Prop :=
  (∀ v, v < N → q.1 v < N) ∧
  (∀ v, v < N → ∀ x, bd fr to (q.2.1 v) x = ((v == x) ^^ (q.1 v == x))) ∧
  (∀ v, v < N → ∀ e, (q.2.1 v).testBit e = true → e < k ∧ s.testBit e = true ∧ ∀ i, i < q.2.2.1 → q.2.2.2.2 i ≠ e) ∧
  (∀ e, e < k → s.testBit e = true → q.1 (fr e) = q.1 (to e)) ∧
  (∀ i, i < q.2.2.1 → q.2.2.2.2 i < k ∧ s.testBit (q.2.2.2.2 i) = true ∧ (∀ x, bd fr to (q.2.2.2.1 i) x = false) ∧ (∀ e, (q.2.2.2.1 i).testBit e = true → e < k ∧ s.testBit e = true) ∧ ∀ j, j < q.2.2.1 → (q.2.2.2.1 i).testBit (q.2.2.2.2 j) = (i == j)) ∧
  (∀ z, (∀ x, bd fr to z x = false) → (∀ e, z.testBit e = true → e < k ∧ s.testBit e = true ∧ ∀ i, i < q.2.2.1 → q.2.2.2.2 i ≠ e) → z = 0)
theorem bne_of {a b : Nat} (h : a ≠ b) : (a == b) = false := by simp [h]
theorem jOK0 (fr to : Nat → Nat) (N s : Nat) : jOK fr to N s 0 j0 := by
  refine ⟨fun v h => h, fun v _ x => ?_, fun v _ e h => ?_, fun e h => by omega, fun i h => absurd h (Nat.not_lt_zero _), fun z _ h => ?_⟩
  · show bd fr to 0 x = ((v == x) ^^ (v == x))
    rw [bd_zero]; cases (v == x) <;> rfl
  · have h : (0 : Nat).testBit e = true := h
    rw [Nat.zero_testBit] at h; cases h
  · refine Nat.eq_of_testBit_eq (fun i => ?_)
    rw [Nat.zero_testBit]
    cases hz : z.testBit i with
    | false => rfl
    | true => exact absurd (h i hz).1 (Nat.not_lt_zero _)
theorem jOK_skip {fr to : Nat → Nat} {N s k : Nat} {q : JS} (h : jOK fr to N s k q) (hs : s.testBit k = false) : jOK fr to N s (k + 1) q := by
  obtain ⟨h1, h2, h3, h4, h5, h6⟩ := h
  have hne : ∀ e, s.testBit e = true → e < k + 1 → e < k := by
    intro e he hlt
    rcases Nat.lt_or_ge e k with q | q
    · exact q
    · have : e = k := by omega
      subst this; rw [hs] at he; cases he
  refine ⟨h1, h2, fun v hv e he => ?_, fun e he hb => h4 e (hne e hb he) hb, fun i hi => ?_, fun z hz hb => h6 z hz (fun e he => ?_)⟩
  · obtain ⟨a, b, c⟩ := h3 v hv e he; exact ⟨by omega, b, c⟩
  · obtain ⟨a, b, c, d, e⟩ := h5 i hi
    exact ⟨by omega, b, c, fun e he => ⟨by have := (d e he).1; omega, (d e he).2⟩, e⟩
  · obtain ⟨a, b, c⟩ := hb e he; exact ⟨hne e b a, b, c⟩
theorem jr_bit {q : JS} {a b k e : Nat} (h : (jr q a b k).testBit e = true) : (q.2.1 a).testBit e = true ∨ (q.2.1 b).testBit e = true ∨ e = k := by
  unfold jr at h
  rw [Nat.testBit_xor, Nat.testBit_xor] at h
  by_cases hk : e = k
  · exact Or.inr (Or.inr hk)
  · rw [Nat.testBit_two_pow_of_ne (fun h => hk h.symm)] at h
    cases ha : (q.2.1 a).testBit e with
    | true => exact Or.inl rfl
    | false =>
      cases hb : (q.2.1 b).testBit e with
      | true => exact Or.inr (Or.inl rfl)
      | false => rw [ha, hb] at h; cases h
theorem jr_not {q : JS} {a b k e : Nat} (ha : (q.2.1 a).testBit e = false) (hb : (q.2.1 b).testBit e = false) : (jr q a b k).testBit e = (k == e) := by
  unfold jr
  rw [Nat.testBit_xor, Nat.testBit_xor, ha, hb]
  by_cases hk : k = e
  · subst hk; rw [Nat.testBit_two_pow_self]; simp
  · rw [Nat.testBit_two_pow_of_ne hk, bne_of hk]; rfl
theorem jr_bd {fr to : Nat → Nat} {N s k : Nat} {q : JS} (h : jOK fr to N s k q) (hk : k < 64) (ha : fr k < N) (hb : to k < N) (x : Nat) : bd fr to (jr q (fr k) (to k) k) x = ((q.1 (fr k) == x) ^^ (q.1 (to k) == x)) := by
  unfold jr
  rw [bd_xor, bd_xor, bd_pow hk, h.2.1 _ ha, h.2.1 _ hb]
  cases (fr k == x) <;> cases (to k == x) <;> cases (q.1 (fr k) == x) <;> cases (q.1 (to k) == x) <;> rfl
theorem bool_f {x : Bool} (h : ¬ x = true) : x = false := by cases x; rfl; exact absurd rfl h
theorem jOK_close {fr to : Nat → Nat} {N s k : Nat} {q : JS} (h : jOK fr to N s k q) (hk : k < 64) (ha : fr k < N) (hb : to k < N) (hs : s.testBit k = true) (hg : q.1 (fr k) = q.1 (to k)) : jOK fr to N s (k + 1) (jStep (fr k) (to k) k q) := by
  have hbd := jr_bd h hk ha hb
  obtain ⟨h1, h2, h3, h4, h5, h6⟩ := h
  have hwk : ∀ v, v < N → (q.2.1 v).testBit k = false := fun v hv => bool_f (fun e => absurd (h3 v hv k e).1 (Nat.lt_irrefl _))
  unfold jStep
  rw [if_pos hg]
  refine ⟨h1, h2, fun v hv e he => ?_, fun e he hb => ?_, fun i hi => ?_, fun z hz hb => h6 z hz (fun e he => ?_)⟩
  · obtain ⟨a, b, c⟩ := h3 v hv e he
    refine ⟨by omega, b, fun i hi => ?_⟩
    show va_up q.2.2.2.2 q.2.2.1 k i ≠ e
    by_cases hd : i = q.2.2.1
    · rw [hd, up_self]; omega
    · rw [up_ne hd]; exact c i (by have hi : i < q.2.2.1 + 1 := hi; omega)
  · rcases Nat.lt_or_ge e k with q' | q'
    · exact h4 e q' hb
    · have : e = k := by omega
      subst this; exact hg
  · have hi : i < q.2.2.1 + 1 := hi
    show va_up q.2.2.2.2 q.2.2.1 k i < k + 1 ∧ s.testBit (va_up q.2.2.2.2 q.2.2.1 k i) = true ∧ (∀ x, bd fr to (va_up q.2.2.2.1 q.2.2.1 (jr q (fr k) (to k) k) i) x = false) ∧ (∀ e, (va_up q.2.2.2.1 q.2.2.1 (jr q (fr k) (to k) k) i).testBit e = true → e < k + 1 ∧ s.testBit e = true) ∧ ∀ j, j < q.2.2.1 + 1 → (va_up q.2.2.2.1 q.2.2.1 (jr q (fr k) (to k) k) i).testBit (va_up q.2.2.2.2 q.2.2.1 k j) = (i == j)
    by_cases hd : i = q.2.2.1
    · subst hd
      rw [up_self, up_self]
      refine ⟨by omega, hs, fun x => ?_, fun e he => ?_, fun j hj => ?_⟩
      · rw [hbd, hg]; cases (q.1 (to k) == x) <;> rfl
      · rcases jr_bit he with e1 | e1 | e1
        · exact ⟨by have := (h3 _ ha e e1).1; omega, (h3 _ ha e e1).2.1⟩
        · exact ⟨by have := (h3 _ hb e e1).1; omega, (h3 _ hb e e1).2.1⟩
        · subst e1; exact ⟨by omega, hs⟩
      · by_cases hd : j = q.2.2.1
        · subst hd
          rw [up_self, jr_not (hwk _ ha) (hwk _ hb)]; simp
        · rw [up_ne hd]
          have hj' : j < q.2.2.1 := by omega
          rw [jr_not (bool_f (fun e => (h3 _ ha _ e).2.2 j hj' rfl)) (bool_f (fun e => (h3 _ hb _ e).2.2 j hj' rfl)), bne_of (by have := (h5 j hj').1; omega), bne_of (by omega)]
    · have hi' : i < q.2.2.1 := by omega
      obtain ⟨a, b, c, d, e⟩ := h5 i hi'
      rw [up_ne hd, up_ne hd]
      refine ⟨by omega, b, c, fun e he => ⟨by have := (d e he).1; omega, (d e he).2⟩, fun j hj => ?_⟩
      by_cases hd2 : j = q.2.2.1
      · subst hd2
        rw [up_self, bne_of hd]
        exact bool_f (fun he => absurd (d k he).1 (Nat.lt_irrefl _))
      · rw [up_ne hd2]; exact e j (by omega)
  · obtain ⟨a, b, c⟩ := hb e he
    have hek : e ≠ k := by
      intro hh
      refine c q.2.2.1 (by show q.2.2.1 < q.2.2.1 + 1; omega) ?_
      show va_up q.2.2.2.2 q.2.2.1 k q.2.2.1 = e
      rw [up_self]; exact hh.symm
    refine ⟨by omega, b, fun i hi => ?_⟩
    have := c i (by show i < q.2.2.1 + 1; omega)
    have this : va_up q.2.2.2.2 q.2.2.1 k i ≠ e := this
    rw [up_ne (by omega)] at this; exact this
theorem jOK_join {fr to : Nat → Nat} {N s k : Nat} {q : JS} (h : jOK fr to N s k q) (hk : k < 64) (hN : ∀ e, e < k + 1 → s.testBit e = true → fr e < N ∧ to e < N) (hs : s.testBit k = true) (hg : q.1 (fr k) ≠ q.1 (to k)) : jOK fr to N s (k + 1) (jStep (fr k) (to k) k q) := by
  obtain ⟨ha, hb⟩ := hN k (by omega) hs
  have hbd := jr_bd h hk ha hb
  obtain ⟨h1, h2, h3, h4, h5, h6⟩ := h
  have hring : ∀ e, (jr q (fr k) (to k) k).testBit e = true → e < k + 1 ∧ s.testBit e = true ∧ ∀ i, i < q.2.2.1 → q.2.2.2.2 i ≠ e := by
    intro e he
    rcases jr_bit he with e1 | e1 | e1
    · obtain ⟨a, b, c⟩ := h3 _ ha e e1; exact ⟨by omega, b, c⟩
    · obtain ⟨a, b, c⟩ := h3 _ hb e e1; exact ⟨by omega, b, c⟩
    · subst e1; exact ⟨by omega, hs, fun i hi => by have := (h5 i hi).1; omega⟩
  unfold jStep
  rw [if_neg hg]
  refine ⟨fun v hv => ?_, fun v hv x => ?_, fun v hv e he => ?_, fun e he hbt => ?_, fun i hi => ?_, fun z hz hzb => ?_⟩
  · show (if q.1 v = q.1 (to k) then q.1 (fr k) else q.1 v) < N
    split
    · exact h1 _ ha
    · exact h1 _ hv
  · show bd fr to (if q.1 v = q.1 (to k) then q.2.1 v ^^^ jr q (fr k) (to k) k else q.2.1 v) x = ((v == x) ^^ ((if q.1 v = q.1 (to k) then q.1 (fr k) else q.1 v) == x))
    by_cases hv2 : q.1 v = q.1 (to k)
    · rw [if_pos hv2, if_pos hv2, bd_xor, h2 _ hv, hbd, hv2]
      cases (v == x) <;> cases (q.1 (fr k) == x) <;> cases (q.1 (to k) == x) <;> rfl
    · rw [if_neg hv2, if_neg hv2]; exact h2 _ hv x
  · have he : (if q.1 v = q.1 (to k) then q.2.1 v ^^^ jr q (fr k) (to k) k else q.2.1 v).testBit e = true := he
    show e < k + 1 ∧ s.testBit e = true ∧ ∀ i, i < q.2.2.1 → q.2.2.2.2 i ≠ e
    by_cases hv2 : q.1 v = q.1 (to k)
    · rw [if_pos hv2, Nat.testBit_xor] at he
      cases hw : (q.2.1 v).testBit e with
      | true => obtain ⟨a, b, c⟩ := h3 v hv e hw; exact ⟨by omega, b, c⟩
      | false => rw [hw, Bool.false_xor] at he; exact hring e he
    · rw [if_neg hv2] at he
      obtain ⟨a, b, c⟩ := h3 v hv e he; exact ⟨by omega, b, c⟩
  · show (if q.1 (fr e) = q.1 (to k) then q.1 (fr k) else q.1 (fr e)) = (if q.1 (to e) = q.1 (to k) then q.1 (fr k) else q.1 (to e))
    rcases Nat.lt_or_ge e k with q' | q'
    · rw [h4 e q' hbt]
    · have : e = k := by omega
      subst this; rw [if_neg hg, if_pos rfl]
  · obtain ⟨a, b, c, d, e⟩ := h5 i hi
    exact ⟨by show q.2.2.2.2 i < k + 1; omega, b, c, fun e he => ⟨by have := (d e he).1; omega, (d e he).2⟩, e⟩
  · have hzk : z.testBit k = false := by
      refine bool_f (fun hzk => ?_)
      have hc := cr_even (N := N) (fun e he => hN e (hzb e he).1 (hzb e he).2.1) hz (fun v => q.1 v == q.1 (to k))
      unfold cr at hc
      rw [xs_one hk] at hc
      · dsimp only at hc; rw [hzk, bne_of hg] at hc; simp at hc
      · intro i _ hne
        cases hi : z.testBit i with
        | false => rfl
        | true =>
          obtain ⟨a, b, c⟩ := hzb i hi
          dsimp only; rw [h4 i (by omega) b]; cases (q.1 (to i) == q.1 (to k)) <;> rfl
    refine h6 z hz (fun e he => ?_)
    obtain ⟨a, b, c⟩ := hzb e he
    refine ⟨?_, b, c⟩
    rcases Nat.lt_or_ge e k with q' | q'
    · exact q'
    · have : e = k := by omega
      subst this; rw [hzk] at he; cases he
/-- the joining, for every set and as far as one likes -/
theorem jOK_run {fr to : Nat → Nat} {N s : Nat} : ∀ k, k ≤ 64 → (∀ e, e < k → s.testBit e = true → fr e < N ∧ to e < N) → jOK fr to N s k (jRun fr to s k)
  | 0, _, _ => jOK0 fr to N s
  | k + 1, hk, hN => by
    have ih := jOK_run k (by omega) (fun e he => hN e (by omega))
    unfold jRun
    cases hs : s.testBit k with
    | false => exact jOK_skip ih hs
    | true =>
      rw [if_pos rfl]
      by_cases hg : (jRun fr to s k).1 (fr k) = (jRun fr to s k).1 (to k)
      · exact jOK_close ih (by omega) (hN k (by omega) hs).1 (hN k (by omega) hs).2 hs hg
      · exact jOK_join ih (by omega) hN hs hg
/-- the sum of those of the rings r 0 .. r (d - 1) whose bit is in c -/
def cb (r : Nat → Nat) : Nat → Nat → Nat
  | 0, _ => 0
  | i + 1, c => cb r i c ^^^ (if c.testBit i then r i else 0)
theorem cb_bit (r : Nat → Nat) (e : Nat) : ∀ d c, (cb r d c).testBit e = xs d (fun i => c.testBit i && (r i).testBit e)
  | 0, c => by simp [cb, xs]
  | d + 1, c => by
    simp only [cb, xs]
    rw [Nat.testBit_xor, cb_bit r e d c]
    cases c.testBit d <;> simp
theorem cb_bd (fr to : Nat → Nat) (r : Nat → Nat) (x : Nat) : ∀ d c, (∀ i, i < d → bd fr to (r i) x = false) → bd fr to (cb r d c) x = false
  | 0, c, _ => by simp only [cb]; exact bd_zero fr to x
  | d + 1, c, h => by
    simp only [cb]
    rw [bd_xor, cb_bd fr to r x d c (fun i hi => h i (by omega))]
    split
    · rw [h d (by omega)]; rfl
    · rw [bd_zero]; rfl
theorem cb_xor (r : Nat → Nat) : ∀ d a b, cb r d (a ^^^ b) = cb r d a ^^^ cb r d b
  | 0, a, b => by simp [cb]
  | d + 1, a, b => by
    refine Nat.eq_of_testBit_eq (fun e => ?_)
    rw [Nat.testBit_xor, cb_bit, cb_bit, cb_bit, ← xs_xor]
    refine xs_congr (fun i _ => ?_)
    rw [Nat.testBit_xor]
    cases a.testBit i <;> cases b.testBit i <;> cases (r i).testBit e <;> rfl
/-- the number whose bits below d are those of f -/
def nb (f : Nat → Bool) : Nat → Nat
  | 0 => 0
  | i + 1 => nb f i + (if f i then 2 ^ i else 0)
theorem nb_lt (f : Nat → Bool) : ∀ d, nb f d < 2 ^ d
  | 0 => by simp [nb]
  | d + 1 => by
    have := nb_lt f d
    simp only [nb]
    rw [Nat.pow_succ]
    split <;> omega
theorem nb_bit (f : Nat → Bool) : ∀ d i, (nb f d).testBit i = (decide (i < d) && f i)
  | 0, i => by simp [nb]
  | d + 1, i => by
    have hl := nb_lt f d
    simp only [nb]
    by_cases hi : i = d
    · subst hi
      have h0 : (nb f i).testBit i = false := Nat.testBit_lt_two_pow hl
      cases hf : f i with
      | false => simp [h0]
      | true =>
        rw [if_pos rfl, Nat.add_comm, Nat.testBit_two_pow_add_eq, h0]; simp
    · rcases Nat.lt_or_ge i d with hlt | hge
      · have h2 : (nb f d + (if f d then 2 ^ d else 0)).testBit i = (nb f d).testBit i := by
          split
          · rw [Nat.add_comm, Nat.testBit_two_pow_add_gt hlt]
          · rw [Nat.add_zero]
        rw [h2, nb_bit f d i]
        simp [hlt, Nat.lt_succ_of_lt hlt]
      · have h3 : nb f d + (if f d then 2 ^ d else 0) < 2 ^ i := by
          have : 2 ^ (d + 1) ≤ 2 ^ i := Nat.pow_le_pow_right (by omega) (by omega)
          rw [Nat.pow_succ] at this
          split <;> omega
        rw [Nat.testBit_lt_two_pow h3]
        simp; omega
/-- every even set within s is the sum of rings that its closing edges name -/
theorem jOK_span {fr to : Nat → Nat} {N s k : Nat} {q : JS} (h : jOK fr to N s k q) {z : Nat} (hz : ∀ x, bd fr to z x = false) (hb : ∀ e, z.testBit e = true → e < k ∧ s.testBit e = true) : z = cb q.2.2.2.1 q.2.2.1 (nb (fun i => z.testBit (q.2.2.2.2 i)) q.2.2.1) := by
  obtain ⟨h1, h2, h3, h4, h5, h6⟩ := h
  have hy := h6 (z ^^^ cb q.2.2.2.1 q.2.2.1 (nb (fun i => z.testBit (q.2.2.2.2 i)) q.2.2.1)) (fun x => by
    rw [bd_xor, hz x, cb_bd fr to _ x _ _ (fun i hi => (h5 i hi).2.2.1 x)]; rfl) (fun e he => by
    rw [Nat.testBit_xor, cb_bit] at he
    have hbit : e < k ∧ s.testBit e = true := by
      cases hze : z.testBit e with
      | true => exact hb e hze
      | false =>
        rw [hze, Bool.false_xor] at he
        have : ∃ i, i < q.2.2.1 ∧ (q.2.2.2.1 i).testBit e = true := by
          refine Classical.byContradiction (fun hn => ?_)
          rw [xs_false] at he
          · cases he
          · intro i hi
            cases hr : (q.2.2.2.1 i).testBit e with
            | false => simp
            | true => exact absurd ⟨i, hi, hr⟩ hn
        obtain ⟨i, hi, hr⟩ := this
        exact (h5 i hi).2.2.2.1 e hr
    refine ⟨hbit.1, hbit.2, fun j hj hje => ?_⟩
    subst hje
    rw [xs_one hj] at he
    · rw [nb_bit, (h5 j hj).2.2.2.2 j hj] at he
      simp [hj] at he
    · intro i hi hne
      rw [(h5 i hi).2.2.2.2 j hj, bne_of hne]; simp)
  have := congrArg (fun y => y ^^^ cb q.2.2.2.1 q.2.2.1 (nb (fun i => z.testBit (q.2.2.2.2 i)) q.2.2.1)) hy
  simpa [Nat.xor_assoc] using this
theorem jOK_code {fr to : Nat → Nat} {N s k : Nat} {q : JS} (h : jOK fr to N s k q) {c j : Nat} (hj : j < q.2.2.1) : (cb q.2.2.2.1 q.2.2.1 c).testBit (q.2.2.2.2 j) = c.testBit j := by
  rw [cb_bit, xs_one hj]
  · rw [(h.2.2.2.2.1 j hj).2.2.2.2 j hj]; simp
  · intro i hi hne
    rw [(h.2.2.2.2.1 i hi).2.2.2.2 j hj, bne_of hne]; simp
end
section
-- how many groups there are
def ct0 : Nat → (Nat → Bool) → Nat
  | 0, _ => 0
  | n + 1, f => ct0 n f + (if f n then 1 else 0)
theorem ct0_congr {n : Nat} {f g : Nat → Bool} (h : ∀ i, i < n → f i = g i) : ct0 n f = ct0 n g := by
  induction n with
  | zero => rfl
  | succ n ih => simp only [ct0]; rw [ih (fun i hi => h i (by omega)), h n (by omega)]
theorem ct0_le (n : Nat) (f : Nat → Bool) : ct0 n f ≤ n := by
  induction n with
  | zero => exact Nat.le_refl _
  | succ n ih => simp only [ct0]; split <;> omega
theorem ct0_drop {n a : Nat} {f g : Nat → Bool} (ha : a < n) (hf : f a = true) (hg : g a = false) (h : ∀ i, i < n → i ≠ a → g i = f i) : ct0 n g + 1 = ct0 n f := by
  induction n with
  | zero => omega
  | succ n ih =>
    simp only [ct0]
    by_cases e : a = n
    · subst e
      rw [ct0_congr (fun i hi => h i (by omega) (by omega)), hf, hg]; simp
    · have := ih (by omega) (fun i hi hne => h i (by omega) hne)
      rw [h n (by omega) (by omega)]; omega
theorem ct0_pos {n a : Nat} {f : Nat → Bool} (ha : a < n) (hf : f a = true) : 1 ≤ ct0 n f := by
  induction n with
  | zero => omega
  | succ n ih =>
    simp only [ct0]
    by_cases e : a = n
    · subst e; rw [hf]; simp
    · have := ih (by omega); omega
theorem ct0_true (n : Nat) {f : Nat → Bool} (h : ∀ i, i < n → f i = true) : ct0 n f = n := by
  induction n with
  | zero => rfl
  | succ n ih => simp only [ct0]; rw [ih (fun i hi => h i (by omega)), h n (by omega)]; rfl
theorem ct0_zero {n : Nat} {f : Nat → Bool} (h : ∀ i, i < n → f i = false) : ct0 n f = 0 := by
  induction n with
  | zero => rfl
  | succ n ih => simp only [ct0]; rw [ih (fun i hi => h i (by omega)), h n (by omega)]; rfl
/-- how many groups: the vertices that bear their group's name -/
def gc (N : Nat) (q : JS) : Nat := ct0 N (fun v => q.1 v == v)
/-- how many edges below k a set has -/
def sz (s k : Nat) : Nat := ct0 k (fun e => s.testBit e)
def jI (N : Nat) (q : JS) : Prop := ∀ v, v < N → q.1 v < N ∧ q.1 (q.1 v) = q.1 v
theorem jI0 (N : Nat) : jI N j0 := fun v hv => ⟨hv, rfl⟩
theorem jI_step {N a b e : Nat} {q : JS} (h : jI N q) (ha : a < N) (hb : b < N) : jI N (jStep a b e q) := by
  unfold jStep
  by_cases hg : q.1 a = q.1 b
  · rw [if_pos hg]; exact h
  · rw [if_neg hg]
    intro v hv
    show (if q.1 v = q.1 b then q.1 a else q.1 v) < N ∧ (if q.1 (if q.1 v = q.1 b then q.1 a else q.1 v) = q.1 b then q.1 a else q.1 (if q.1 v = q.1 b then q.1 a else q.1 v)) = (if q.1 v = q.1 b then q.1 a else q.1 v)
    by_cases hv2 : q.1 v = q.1 b
    · rw [if_pos hv2, (h a ha).2, if_neg hg]; exact ⟨(h a ha).1, rfl⟩
    · rw [if_neg hv2, (h v hv).2, if_neg hv2]; exact ⟨(h v hv).1, rfl⟩
theorem gc_close {N a b e : Nat} {q : JS} (hg : q.1 a = q.1 b) : gc N (jStep a b e q) = gc N q := by
  unfold jStep; rw [if_pos hg]; rfl
theorem gc_join {N a b e : Nat} {q : JS} (h : jI N q) (ha : a < N) (hb : b < N) (hg : q.1 a ≠ q.1 b) : gc N (jStep a b e q) + 1 = gc N q := by
  unfold jStep; rw [if_neg hg]
  refine ct0_drop (a := q.1 b) (h b hb).1 (by rw [(h b hb).2]; simp) ?_ (fun i hi hne => ?_)
  · show ((if q.1 (q.1 b) = q.1 b then q.1 a else q.1 (q.1 b)) == q.1 b) = false
    rw [if_pos (h b hb).2, bne_of hg]
  · show ((if q.1 i = q.1 b then q.1 a else q.1 i) == i) = (q.1 i == i)
    by_cases hi2 : q.1 i = q.1 b
    · rw [if_pos hi2, bne_of (fun h2 => ?_), bne_of (fun h2 => hne (by rw [← hi2]; exact h2.symm))]
      have := (h a ha).2
      rw [h2, hi2] at this; exact hg (by rw [h2, ← this])
    · rw [if_neg hi2]
theorem jI_run {fr to : Nat → Nat} {N s : Nat} : ∀ k, (∀ e, e < k → s.testBit e = true → fr e < N ∧ to e < N) → jI N (jRun fr to s k)
  | 0, _ => jI0 N
  | k + 1, hN => by
    have ih := jI_run k (fun e he => hN e (by omega))
    unfold jRun
    cases hs : s.testBit k with
    | false => exact ih
    | true => rw [if_pos rfl]; exact jI_step ih (hN k (by omega) hs).1 (hN k (by omega) hs).2
theorem jd_close {a b e : Nat} {q : JS} (hg : q.1 a = q.1 b) : (jStep a b e q).2.2.1 = q.2.2.1 + 1 := by unfold jStep; rw [if_pos hg]
theorem jd_join {a b e : Nat} {q : JS} (hg : q.1 a ≠ q.1 b) : (jStep a b e q).2.2.1 = q.2.2.1 := by unfold jStep; rw [if_neg hg]
/-- groups and rings: together as many as vertices and what was not joined -/
theorem gc_run {fr to : Nat → Nat} {N s : Nat} : ∀ k, (∀ e, e < k → s.testBit e = true → fr e < N ∧ to e < N) → gc N (jRun fr to s k) + sz s k = N + (jRun fr to s k).2.2.1
  | 0, _ => by
    show gc N j0 + 0 = N + 0
    unfold gc
    rw [ct0_true N (fun i _ => by show (i == i) = true; simp)]
  | k + 1, hN => by
    have ih := gc_run k (fun e he => hN e (by omega))
    have hi := jI_run (fr := fr) (to := to) (N := N) (s := s) k (fun e he => hN e (by omega))
    show gc N (if s.testBit k then jStep (fr k) (to k) k (jRun fr to s k) else jRun fr to s k) + (sz s k + (if s.testBit k then 1 else 0)) = N + (if s.testBit k then jStep (fr k) (to k) k (jRun fr to s k) else jRun fr to s k).2.2.1
    cases hs : s.testBit k with
    | false => simp; exact ih
    | true =>
      simp only [if_pos]
      by_cases hg : (jRun fr to s k).1 (fr k) = (jRun fr to s k).1 (to k)
      · rw [gc_close hg, jd_close hg]; omega
      · have := gc_join (e := k) hi (hN k (by omega) hs).1 (hN k (by omega) hs).2 hg
        rw [jd_join hg]; omega
theorem gc_pos {fr to : Nat → Nat} {N s k : Nat} (h0 : 0 < N) (hN : ∀ e, e < k → s.testBit e = true → fr e < N ∧ to e < N) : 1 ≤ gc N (jRun fr to s k) := by
  have h := jI_run (fr := fr) (to := to) (N := N) (s := s) k hN 0 h0
  exact ct0_pos h.1 (by rw [h.2]; simp)
theorem gc_le (N : Nat) (q : JS) : gc N q ≤ N := ct0_le _ _
theorem jd_le {fr to : Nat → Nat} {s : Nat} : ∀ k, (jRun fr to s k).2.2.1 ≤ sz s k
  | 0 => Nat.le_refl _
  | k + 1 => by
    have ih := jd_le (fr := fr) (to := to) (s := s) k
    show (if s.testBit k then jStep (fr k) (to k) k (jRun fr to s k) else jRun fr to s k).2.2.1 ≤ sz s k + (if s.testBit k then 1 else 0)
    cases hs : s.testBit k with
    | false => simpa using ih
    | true =>
      simp only [if_pos]
      by_cases hg : (jRun fr to s k).1 (fr k) = (jRun fr to s k).1 (to k)
      · rw [jd_close hg]; omega
      · rw [jd_join hg]; omega
theorem sz_le (s k : Nat) : sz s k ≤ k := ct0_le _ _
theorem jd_lt {fr to : Nat → Nat} {s k : Nat} : (jRun fr to s k).2.2.1 ≤ k := Nat.le_trans (jd_le k) (sz_le s k)
/-- all edges below m -/
abbrev fl (m : Nat) : Nat := 2 ^ m - 1
theorem fl_bit {m e : Nat} : (fl m).testBit e = decide (e < m) := Nat.testBit_two_pow_sub_one m e
theorem jRun_all {fr to : Nat → Nat} {m k : Nat} (hk : k < m) : jRun fr to (fl m) (k + 1) = jStep (fr k) (to k) k (jRun fr to (fl m) k) := by
  show (if (fl m).testBit k then jStep (fr k) (to k) k (jRun fr to (fl m) k) else jRun fr to (fl m) k) = _
  rw [fl_bit, if_pos (by simp [hk])]
theorem jRun_in {fr to : Nat → Nat} {s k : Nat} (hs : s.testBit k = true) : jRun fr to s (k + 1) = jStep (fr k) (to k) k (jRun fr to s k) := by
  show (if s.testBit k then jStep (fr k) (to k) k (jRun fr to s k) else jRun fr to s k) = _
  rw [if_pos hs]
theorem jRun_out {fr to : Nat → Nat} {s k : Nat} (hs : ¬ s.testBit k = true) : jRun fr to s (k + 1) = jRun fr to s k := by
  show (if s.testBit k then jStep (fr k) (to k) k (jRun fr to s k) else jRun fr to s k) = _
  rw [if_neg hs]
theorem sz_fl (m : Nat) : sz (fl m) m = m := ct0_true m (fun i hi => by rw [fl_bit]; simp [hi])
theorem gc_all {fr to : Nat → Nat} {N m : Nat} (hN : ∀ e, e < m → fr e < N ∧ to e < N) : gc N (jRun fr to (fl m) m) + m = N + (jRun fr to (fl m) m).2.2.1 := by
  have := gc_run (fr := fr) (to := to) (N := N) (s := fl m) m (fun e he _ => hN e he)
  rw [sz_fl] at this; exact this
/-- of the whole graph: the dimension, the closed rings, their closing edges, the even sets by their codes, their weights -/
abbrev dmA (fr to : Nat → Nat) (m : Nat) : Nat := (jRun fr to (fl m) m).2.2.1
abbrev rgA (fr to : Nat → Nat) (m : Nat) : Nat → Nat := (jRun fr to (fl m) m).2.2.2.1
abbrev czA (fr to : Nat → Nat) (m : Nat) : Nat → Nat := (jRun fr to (fl m) m).2.2.2.2
abbrev elA (fr to : Nat → Nat) (m c : Nat) : Nat := cb (rgA fr to m) (dmA fr to m) c
theorem cb_lt {r : Nat → Nat} {m : Nat} : ∀ {d c : Nat}, (∀ i, i < d → ∀ e, (r i).testBit e = true → e < m) → cb r d c < 2 ^ m := by
  intro d c h
  refine Nat.lt_pow_two_of_testBit _ (fun e he => ?_)
  rw [cb_bit]
  refine xs_false _ (fun i hi => ?_)
  cases hr : (r i).testBit e with
  | false => simp
  | true => exact absurd (h i hi e hr) (by omega)
theorem jA {fr to : Nat → Nat} {N m : Nat} (hm : m ≤ 64) (hN : ∀ e, e < m → fr e < N ∧ to e < N) : jOK fr to N (fl m) m (jRun fr to (fl m) m) := jOK_run m hm (fun e he _ => hN e he)
theorem elA_lt {fr to : Nat → Nat} {N m : Nat} (hm : m ≤ 64) (hN : ∀ e, e < m → fr e < N ∧ to e < N) {i c : Nat} (hi : i ≤ dmA fr to m) : cb (rgA fr to m) i c < 2 ^ m :=
  cb_lt (fun j hj e he => ((jA hm hN).2.2.2.2.1 j (Nat.lt_of_lt_of_le hj hi)).2.2.2.1 e he |>.1)
theorem cb_0 (r : Nat → Nat) : ∀ d, cb r d 0 = 0
  | 0 => rfl
  | d + 1 => by simp [cb, cb_0 r d]
theorem ct0_t {n : Nat} {f : Nat → Bool} (h : f n = true) : ct0 (n + 1) f = ct0 n f + 1 := by simp only [ct0]; rw [if_pos h]
theorem ct0_f {n : Nat} {f : Nat → Bool} (h : f n = false) : ct0 (n + 1) f = ct0 n f := by simp only [ct0]; rw [if_neg (by rw [h]; decide), Nat.add_zero]
end
section
-- numbers of the machine, for the walks
theorem nm_shr {z k : Nat} (hz : z < 2 ^ 62) (hk : k < 64) : lN z >>> ((nI k).toInt64 &&& 63) = lN (z / 2 ^ k) := by
  refine pf_shr ?_ hz
  rw [wb_c k hk, wb_tb, wb_sm k hk]
  rw [BitVec.toNat_ofNat]
  exact Nat.mod_eq_of_lt (by omega)
theorem nm_bit {z k : Nat} (hz : z < 2 ^ 62) (hk : k < 64) : (lN z >>> ((nI k).toInt64 &&& 63)) &&& 1 = lN (z / 2 ^ k % 2) := by
  rw [nm_shr hz hk]
  exact wb_a1 (Nat.lt_of_le_of_lt (Nat.div_le_self _ _) (by omega))
theorem nm_tb (z k : Nat) : z / 2 ^ k % 2 = if z.testBit k then 1 else 0 := by
  rw [Nat.testBit_eq_decide_div_mod_eq]
  by_cases h : z / 2 ^ k % 2 = 1
  · simp [h]
  · have : z / 2 ^ k % 2 < 2 := Nat.mod_lt _ (by omega)
    simp [h]; omega
theorem nm_bit1 {z k : Nat} (hz : z < 2 ^ 62) (hk : k < 64) : (lN z >>> ((nI k).toInt64 &&& 63)) &&& 1 = 1 ↔ z.testBit k = true := by
  rw [nm_bit hz hk, nm_tb]
  cases z.testBit k <;> simp <;> decide
theorem nm_bit0 {z k : Nat} (hz : z < 2 ^ 62) (hk : k < 64) : (lN z >>> ((nI k).toInt64 &&& 63)) &&& 1 = 0 ↔ z.testBit k = false := by
  rw [nm_bit hz hk, nm_tb]
  cases z.testBit k <;> simp <;> decide
theorem nm_ubit0 {z k : Nat} (hz : z < 2 ^ 64) (hk : k < 64) : ((lN z).toUInt64 >>> ((nI k).toInt64.toUInt64 &&& Int64.toUInt64 63)).toInt64 &&& 1 = 0 ↔ z.testBit k = false := by
  rw [wb_bit hz hk, nm_tb]
  cases z.testBit k <;> simp <;> decide
theorem nm_pow {k : Nat} (hk : k < 64) : (1 : Int64) <<< ((nI k).toInt64 &&& 63) = lN (2 ^ k) := by
  have := wb_shl 1 hk
  rw [Nat.one_mul] at this
  exact this
theorem nm_il {w : Nat} (h : w < 2 ^ 31) : (nI w).toInt64 = lN w := nI_l h
/-- the weight of the edges below m of a set -/
def wsum (wt : Nat → Nat) (z : Nat) : Nat → Nat
  | 0 => 0
  | e + 1 => wsum wt z e + (if z.testBit e then wt e else 0)
/-- the graph that the reference's cells tell -/
def gM (nv ne : Nat) (fr to wt : Nat → Nat) (I : Nat → Int32) (A : Nat → Nat → Int32) : Prop :=
  1 ≤ nv ∧ nv ≤ 16 ∧ ne ≤ 40 ∧ I 1 = nI nv ∧ I 2 = nI ne ∧ ∀ e, e < ne → (A 3 e = nI (fr e) ∧ fr e < nv) ∧ (A 4 e = nI (to e) ∧ to e < nv) ∧ A 5 e = nI (wt e) ∧ wt e ≤ 1000000000
/-- names of groups and ways, as cells tell them -/
def rG (N : Nat) (g : Nat → Nat) (f : Nat → Int32) : Prop := ∀ v, v < N → f v = nI (g v) ∧ g v < N
def rW (N : Nat) (w : Nat → Nat) (f : Nat → Int64) : Prop := ∀ v, v < N → f v = lN (w v)
/-- the joining's state, as the reference's cells tell it -/
def rJ (N : Nat) (q : JS) (I : Nat → Int32) (A : Nat → Nat → Int32) (B : Nat → Nat → Int64) : Prop :=
  rG N q.1 (A 8) ∧ rW N q.2.1 (B 9) ∧ I 10 = nI q.2.2.1 ∧ ∀ i, i < q.2.2.1 → B 11 i = lN (q.2.2.2.1 i) ∧ A 12 i = nI (q.2.2.2.2 i)
/-- what the joining leaves as it was -/
def fJ (I : Nat → Int32) (A : Nat → Nat → Int32) (B : Nat → Nat → Int64) (u : sgM) : Prop := (∀ k, k ≠ 10 → u.1 k = I k) ∧ (∀ k, k ≠ 8 → k ≠ 12 → u.2.1 k = A k) ∧ ∀ k, k ≠ 9 → k ≠ 11 → u.2.2 k = B k
theorem fJ.rf {I : Nat → Int32} {A : Nat → Nat → Int32} {B : Nat → Nat → Int64} : fJ I A B (I, A, B) := ⟨fun _ _ => rfl, fun _ _ _ => rfl, fun _ _ _ => rfl⟩
theorem fJ.tr {I I1 : Nat → Int32} {A A1 : Nat → Nat → Int32} {B B1 : Nat → Nat → Int64} {u : sgM} (h : fJ I A B (I1, A1, B1)) (h2 : fJ I1 A1 B1 u) : fJ I A B u :=
  ⟨fun k a => (h2.1 k a).trans (h.1 k a), fun k a b => (h2.2.1 k a b).trans (h.2.1 k a b), fun k a b => (h2.2.2 k a b).trans (h.2.2 k a b)⟩
theorem gM.fj {nv ne : Nat} {fr to wt : Nat → Nat} {I : Nat → Int32} {A : Nat → Nat → Int32} {B : Nat → Nat → Int64} {u : sgM} (g : gM nv ne fr to wt I A) (h : fJ I A B u) : gM nv ne fr to wt u.1 u.2.1 := by
  obtain ⟨g1, g2, g3, g4, g5, g6⟩ := g
  refine ⟨g1, g2, g3, by rw [h.1 1 (by decide)]; exact g4, by rw [h.1 2 (by decide)]; exact g5, ?_⟩
  rw [h.2.1 3 (by decide) (by decide), h.2.1 4 (by decide) (by decide), h.2.1 5 (by decide) (by decide)]
  exact g6
theorem rJ_close {N a b e : Nat} {q : JS} {I I' : Nat → Int32} {A A' : Nat → Nat → Int32} {B B' : Nat → Nat → Int64} (h : rJ N q I A B) (hg : q.1 a = q.1 b) (hA8 : A' 8 = A 8) (hB9 : B' 9 = B 9) (hI : I' 10 = nI (q.2.2.1 + 1))
    (hB : B' 11 = vp_updL (B 11) q.2.2.1 (lN (jr q a b e))) (hA : A' 12 = upd (A 12) q.2.2.1 (nI e)) : rJ N (jStep a b e q) I' A' B' := by
  obtain ⟨h1, h2, h3, h4⟩ := h
  unfold jStep
  rw [if_pos hg]
  refine ⟨by rw [hA8]; exact h1, by rw [hB9]; exact h2, hI, fun i hi => ?_⟩
  have hi : i < q.2.2.1 + 1 := hi
  show B' 11 i = lN (va_up q.2.2.2.1 q.2.2.1 (jr q a b e) i) ∧ A' 12 i = nI (va_up q.2.2.2.2 q.2.2.1 e i)
  rw [hB, hA]
  by_cases hd : i = q.2.2.1
  · subst hd; rw [pk_uLs, pk_us, up_self, up_self]; exact ⟨rfl, rfl⟩
  · rw [pk_uLn hd, pk_un hd, up_ne hd, up_ne hd]; exact h4 i (by omega)
theorem rJ_join {N a b e : Nat} {q : JS} {I I' : Nat → Int32} {A A' : Nat → Nat → Int32} {B B' : Nat → Nat → Int64} (h : rJ N q I A B) (ha : a < N) (hg : q.1 a ≠ q.1 b) (hI : I' 10 = I 10) (hB : B' 11 = B 11) (hA : A' 12 = A 12)
    (hA8 : ∀ v, v < N → A' 8 v = nI (if q.1 v = q.1 b then q.1 a else q.1 v)) (hB9 : ∀ v, v < N → B' 9 v = lN (if q.1 v = q.1 b then q.2.1 v ^^^ jr q a b e else q.2.1 v)) : rJ N (jStep a b e q) I' A' B' := by
  obtain ⟨h1, h2, h3, h4⟩ := h
  unfold jStep
  rw [if_neg hg]
  refine ⟨fun v hv => ⟨hA8 v hv, ?_⟩, hB9, by rw [hI]; exact h3, by rw [hB, hA]; exact h4⟩
  show (if q.1 v = q.1 b then q.1 a else q.1 v) < N
  split
  · exact (h1 a ha).2
  · exact (h1 v hv).2
theorem fJ.of {I I' : Nat → Int32} {A A' : Nat → Nat → Int32} {B B' : Nat → Nat → Int64} (h1 : ∀ k, k ≠ 10 → I' k = I k) (h2 : ∀ k, k ≠ 8 → k ≠ 12 → A' k = A k) (h3 : ∀ k, k ≠ 9 → k ≠ 11 → B' k = B k) : fJ I A B (I', A', B') := ⟨h1, h2, h3⟩
theorem dim_eq {a b c d : Nat} (h : a + b = c + d) : nI b - nI c + nI a = nI d := by
  have h1 : nI a + nI b = nI c + nI d := by rw [nI_add, nI_add, h]
  grind
/-- edge: the arguments are no edge's; there is no room for it -/
def bE (nv : Nat) (a b w : Int32) : Prop := a < 0 ∨ nI nv ≤ a ∨ b < 0 ∨ nI nv ≤ b ∨ w < 0 ∨ 1000000000 < w
def fE (ne : Nat) (q : JS) (a b : Int32) : Prop := ne = 40 ∨ (q.2.2.1 = 14 ∧ q.1 a.toNatClampNeg = q.1 b.toNatClampNeg)
theorem isv {a n : Int32} : (if a < 0 then 0 else if n ≤ a then 0 else 1 : Int32) = 0 ↔ a < 0 ∨ n ≤ a := by
  by_cases h : a < 0
  · simp [h]
  · by_cases h2 : n ≤ a
    · simp [h, h2]
    · simp [h, h2]
theorem vtx_of {nv : Nat} {a : Int32} (hn : nv ≤ 16) (h0 : ¬ a < 0) (h1 : ¬ nI nv ≤ a) : ∃ j, j < nv ∧ a = nI j ∧ a.toNatClampNeg = j := by
  obtain ⟨j, hj, rfl⟩ := nI_of h0
  rw [nI_leI (by omega) hj] at h1
  exact ⟨j, by omega, rfl, nI_clamp hj⟩
/-- the reference's cells but for 'thrown' and the joining's -/
def fQ (I : Nat → Int32) (A : Nat → Nat → Int32) (B : Nat → Nat → Int64) (u : sgM) : Prop := (∀ k, k ≠ 0 → k ≠ 10 → u.1 k = I k) ∧ (∀ k, k ≠ 8 → k ≠ 12 → u.2.1 k = A k) ∧ ∀ k, k ≠ 9 → k ≠ 11 → u.2.2 k = B k
theorem fQ.of {I I' : Nat → Int32} {A A' : Nat → Nat → Int32} {B B' : Nat → Nat → Int64} (h1 : ∀ k, k ≠ 0 → k ≠ 10 → I' k = I k) (h2 : ∀ k, k ≠ 8 → k ≠ 12 → A' k = A k) (h3 : ∀ k, k ≠ 9 → k ≠ 11 → B' k = B k) : fQ I A B (I', A', B') := ⟨h1, h2, h3⟩
/-- edge: one more -/
def nE (ne : Nat) (a b w : Int32) (I : Nat → Int32) (A : Nat → Nat → Int32) (B : Nat → Nat → Int64) (u : sgM) : Prop :=
  u.1 2 = nI (ne + 1) ∧ (∀ k, k ≠ 0 → k ≠ 2 → k ≠ 10 → u.1 k = I k) ∧ u.2.1 3 = upd (A 3) ne a ∧ u.2.1 4 = upd (A 4) ne b ∧ u.2.1 5 = upd (A 5) ne w ∧ (∀ k, k ≠ 3 → k ≠ 4 → k ≠ 5 → k ≠ 8 → k ≠ 12 → u.2.1 k = A k) ∧ ∀ k, k ≠ 9 → k ≠ 11 → u.2.2 k = B k
theorem nm_ishl {k : Nat} (hk : k < 31) : (1 : Int32) <<< (nI k &&& 31) = nI (2 ^ k) := by
  have h2 : 2 ^ k < 2 ^ 31 := Nat.pow_lt_pow_right (by omega) (by omega)
  have := pk_shlN (n := 1) (nI k &&& 31) k (s_l k (by omega)) (by omega)
  rw [Nat.one_mul] at this
  exact this
theorem nm_ishr {z k : Nat} (hz : z < 2 ^ 31) (hk : k < 32) : nI z >>> (nI k &&& 31) = nI (z / 2 ^ k) := pk_shrN hz _ k (s_l k hk)
theorem nm_ibit {z k : Nat} (hz : z < 2 ^ 31) (hk : k < 32) : (nI z >>> (nI k &&& 31)) &&& 1 = nI (if z.testBit k then 1 else 0) := by
  rw [nm_ishr hz hk, pk_andN (Nat.lt_of_le_of_lt (Nat.div_le_self _ _) (by omega)) 1 (by decide), Nat.pow_one, nm_tb]
theorem nm_ibit1 {z k : Nat} (hz : z < 2 ^ 31) (hk : k < 32) : (nI z >>> (nI k &&& 31)) &&& 1 = 1 ↔ z.testBit k = true := by
  rw [nm_ibit hz hk]
  cases z.testBit k <;> simp <;> decide
theorem pw14 {d : Nat} (h : d ≤ 14) : 2 ^ d ≤ 16384 := Nat.pow_le_pow_right (n := 2) (by omega) h
theorem pw40 {z m : Nat} (h : z < 2 ^ m) (hm : m ≤ 40) : z < 2 ^ 62 := Nat.lt_of_lt_of_le h (Nat.pow_le_pow_right (by omega) (by omega))
/-- what the spreading leaves as it was -/
def fS (I : Nat → Int32) (A : Nat → Nat → Int32) (B : Nat → Nat → Int64) (u : sgM) : Prop := (∀ k, k ≠ 10 → u.1 k = I k) ∧ (∀ k, k ≠ 8 → k ≠ 12 → u.2.1 k = A k) ∧ ∀ k, k ≠ 9 → k ≠ 11 → k ≠ 13 → k ≠ 14 → u.2.2 k = B k
theorem fS.of {I I' : Nat → Int32} {A A' : Nat → Nat → Int32} {B B' : Nat → Nat → Int64} (h1 : ∀ k, k ≠ 10 → I' k = I k) (h2 : ∀ k, k ≠ 8 → k ≠ 12 → A' k = A k) (h3 : ∀ k, k ≠ 9 → k ≠ 11 → k ≠ 13 → k ≠ 14 → B' k = B k) : fS I A B (I', A', B') := ⟨h1, h2, h3⟩
theorem gM.fs {nv ne : Nat} {fr to wt : Nat → Nat} {I : Nat → Int32} {A : Nat → Nat → Int32} {B : Nat → Nat → Int64} {u : sgM} (g : gM nv ne fr to wt I A) (h : fS I A B u) : gM nv ne fr to wt u.1 u.2.1 := by
  obtain ⟨g1, g2, g3, g4, g5, g6⟩ := g
  refine ⟨g1, g2, g3, by rw [h.1 1 (by decide)]; exact g4, by rw [h.1 2 (by decide)]; exact g5, ?_⟩
  rw [h.2.1 3 (by decide) (by decide), h.2.1 4 (by decide) (by decide), h.2.1 5 (by decide) (by decide)]
  exact g6
theorem gM.en {nv ne : Nat} {fr to wt : Nat → Nat} {I : Nat → Int32} {A : Nat → Nat → Int32} (g : gM nv ne fr to wt I A) : ∀ e, e < ne → fr e < nv ∧ to e < nv := fun e he => ⟨(g.2.2.2.2.2 e he).1.2, (g.2.2.2.2.2 e he).2.1.2⟩
end
section
-- the reference's answers, as numbers
/-- ends of a set's edges at v -/
def dg (fr to : Nat → Nat) (z : Nat) : Nat → Nat → Nat
  | 0, _ => 0
  | e + 1, v => dg fr to z e v + (if z.testBit e then (if fr e = v then 1 else 0) + (if to e = v then 1 else 0) else 0)
theorem dg_le (fr to : Nat → Nat) (z v : Nat) : ∀ m, dg fr to z m v ≤ 2 * m
  | 0 => Nat.le_refl _
  | m + 1 => by
    have := dg_le fr to z v m
    simp only [dg]
    split
    · split <;> split <;> omega
    · omega
abbrev evn (fr to : Nat → Nat) (nv ne z : Nat) : Prop := ∀ v, v < nv → dg fr to z ne v % 2 = 0
abbrev rng (fr to : Nat → Nat) (nv ne z : Nat) : Prop := z ≠ 0 ∧ (∀ v, v < nv → dg fr to z ne v ≤ 2) ∧ (jRun fr to z ne).2.2.1 = 1
theorem nI_b {P : Prop} [Decidable P] : (if P then (1 : Int32) else 0) = nI (if P then 1 else 0) := by split <;> rfl
theorem bll_succ {P : Nat → Prop} {i : Nat} : (∀ v, v < i + 1 → P v) ↔ (∀ v, v < i → P v) ∧ P i :=
  ⟨fun h => ⟨fun v hv => h v (by omega), h i (by omega)⟩, fun h v hv => by
    rcases Nat.lt_or_ge v i with q | q
    · exact h.1 v q
    · have : v = i := by omega
      rw [this]; exact h.2⟩
theorem nm_rem2 {n : Nat} (h : n < 2 ^ 31) : nI n - nI n / 2 * 2 = nI (n % 2) := pk_rem (d := 2) h (by decide) (by decide)
/-- the sum of the rows that make a number smaller -/
def rsn (rows : Nat → Nat) : Nat → Nat → Nat
  | 0, z => z
  | k + 1, z => if rsn rows k z ^^^ rows k < rsn rows k z then rsn rows k z ^^^ rows k else rsn rows k z
/-- the rows, as the reference's cells tell them -/
def rR (b rd : Nat) (rows : Nat → Nat) (I : Nat → Int32) (B : Nat → Nat → Int64) : Prop := I 16 = nI rd ∧ ∀ k, k < rd → B 15 k = lN (rows k) ∧ rows k < 2 ^ b
theorem rsn_lt {rows : Nat → Nat} {b z : Nat} (hz : z < 2 ^ b) : ∀ k, (∀ i, i < k → rows i < 2 ^ b) → rsn rows k z < 2 ^ b
  | 0, _ => hz
  | k + 1, h => by
    have ih := rsn_lt hz k (fun i hi => h i (by omega))
    simp only [rsn]
    split
    · exact Nat.xor_lt_two_pow ih (h k (by omega))
    · exact ih
/-- the list, as the reference's cells tell it -/
def lM (L : Nat) (li : Nat → Nat) (I : Nat → Int32) (B : Nat → Nat → Int64) : Prop := I 7 = nI L ∧ L ≤ 64 ∧ ∀ k, k < L → B 6 k = lN (li k) ∧ li k < 2 ^ 40
theorem pwb {z b : Nat} (h : z < 2 ^ b) (hb : b ≤ 40) : z < 2 ^ 63 := Nat.lt_of_lt_of_le h (Nat.pow_le_pow_right (by omega) (by omega))
/-- what a question leaves as it was: the graph and the list -/
def fP (I : Nat → Int32) (A : Nat → Nat → Int32) (B : Nat → Nat → Int64) (u : sgM) : Prop :=
  (∀ k, k ≠ 0 → k ≠ 10 → k ≠ 16 → u.1 k = I k) ∧ (∀ k, k ≠ 8 → k ≠ 12 → k ≠ 18 → k ≠ 19 → u.2.1 k = A k) ∧ ∀ k, k ≠ 9 → k ≠ 11 → k ≠ 13 → k ≠ 14 → k ≠ 15 → k ≠ 17 → u.2.2 k = B k
theorem fP.of {I I' : Nat → Int32} {A A' : Nat → Nat → Int32} {B B' : Nat → Nat → Int64} (h1 : ∀ k, k ≠ 0 → k ≠ 10 → k ≠ 16 → I' k = I k) (h2 : ∀ k, k ≠ 8 → k ≠ 12 → k ≠ 18 → k ≠ 19 → A' k = A k) (h3 : ∀ k, k ≠ 9 → k ≠ 11 → k ≠ 13 → k ≠ 14 → k ≠ 15 → k ≠ 17 → B' k = B k) : fP I A B (I', A', B') := ⟨h1, h2, h3⟩
theorem fP.rf0 {I I' : Nat → Int32} {A : Nat → Nat → Int32} {B : Nat → Nat → Int64} {v : Int32} (h : I' = va_up I 0 v) : fP I A B (I', A, B) := ⟨fun k h0 _ _ => by rw [h]; exact up_ne h0, fun _ _ _ _ _ => rfl, fun _ _ _ _ _ _ _ => rfl⟩
theorem fP.tr {I I1 : Nat → Int32} {A A1 : Nat → Nat → Int32} {B B1 : Nat → Nat → Int64} {u : sgM} (h : fP I A B (I1, A1, B1)) (h2 : fP I1 A1 B1 u) : fP I A B u :=
  ⟨fun k a b c => (h2.1 k a b c).trans (h.1 k a b c), fun k a b c d => (h2.2.1 k a b c d).trans (h.2.1 k a b c d), fun k a b c d e f => (h2.2.2 k a b c d e f).trans (h.2.2 k a b c d e f)⟩
theorem fJ.fp {I : Nat → Int32} {A : Nat → Nat → Int32} {B : Nat → Nat → Int64} {u : sgM} (h : fJ I A B u) : fP I A B u := ⟨fun k _ b _ => h.1 k b, fun k a b _ _ => h.2.1 k a b, fun k a b _ _ _ _ => h.2.2 k a b⟩
theorem fS.fp {I : Nat → Int32} {A : Nat → Nat → Int32} {B : Nat → Nat → Int64} {u : sgM} (h : fS I A B u) : fP I A B u := ⟨fun k _ b _ => h.1 k b, fun k a b _ _ => h.2.1 k a b, fun k a b c d _ _ => h.2.2 k a b c d⟩
theorem fQ.fp {I : Nat → Int32} {A : Nat → Nat → Int32} {B : Nat → Nat → Int64} {u : sgM} (h : fQ I A B u) : fP I A B u := ⟨fun k a b _ => h.1 k a b, fun k a b _ _ => h.2.1 k a b, fun k a b _ _ _ _ => h.2.2 k a b⟩
theorem gM.fp {nv ne : Nat} {fr to wt : Nat → Nat} {I : Nat → Int32} {A : Nat → Nat → Int32} {B : Nat → Nat → Int64} {u : sgM} (g : gM nv ne fr to wt I A) (h : fP I A B u) : gM nv ne fr to wt u.1 u.2.1 := by
  obtain ⟨g1, g2, g3, g4, g5, g6⟩ := g
  refine ⟨g1, g2, g3, by rw [h.1 1 (by decide) (by decide) (by decide)]; exact g4, by rw [h.1 2 (by decide) (by decide) (by decide)]; exact g5, ?_⟩
  rw [h.2.1 3 (by decide) (by decide) (by decide) (by decide), h.2.1 4 (by decide) (by decide) (by decide) (by decide), h.2.1 5 (by decide) (by decide) (by decide) (by decide)]
  exact g6
theorem nm_set {z k : Nat} (hz : z < 2 ^ 64) (hk : k ≤ 40) : ((lN z).toUInt64 >>> ((nI k).toInt64.toUInt64 &&& Int64.toUInt64 63)).toInt64 = 0 ↔ z < 2 ^ k := by
  rw [wb_shr hz (by omega)]
  have hp : 0 < 2 ^ k := Nat.two_pow_pos k
  have hl : z / 2 ^ k < 2 ^ 64 := Nat.lt_of_le_of_lt (Nat.div_le_self _ _) hz
  constructor
  · intro h
    have h2 : z / 2 ^ k = 0 := by
      have this : (lN (z / 2 ^ k)).toBitVec.toNat = (0 : Int64).toBitVec.toNat := congrArg (fun x => x.toBitVec.toNat) h
      rw [wb_tn hl] at this
      exact this
    rcases Nat.lt_or_ge z (2 ^ k) with q | q
    · exact q
    · have := Nat.div_pos q hp; omega
  · intro h
    rw [Nat.div_eq_of_lt h]; rfl
/-- the least of w over those below i that P has; -1 without one -/
def thI (P : Nat → Bool) (w : Nat → Nat) (i : Nat) (y : Int64) : Prop :=
  (y = -1 ∧ ∀ c, c < i → P c = false) ∨ ∃ c, c < i ∧ P c = true ∧ y = lN (w c) ∧ ∀ c', c' < i → P c' = true → w c ≤ w c'
theorem lN_nneg {a : Nat} (h : a < 2 ^ 63) : ¬ lN a < 0 := fun h2 => absurd ((pk_lLT (b := 0) h (by decide)).mp h2) (Nat.not_lt_zero _)
theorem thI_skip {P : Nat → Bool} {w : Nat → Nat} {i : Nat} {y : Int64} (h : thI P w i y) (hp : P i = false) : thI P w (i + 1) y := by
  have key : ∀ c, c < i + 1 → P c = true → c < i := fun c hc h2 => by
    rcases Nat.lt_or_ge c i with q | q
    · exact q
    · have : c = i := by omega
      rw [this, hp] at h2; cases h2
  rcases h with ⟨h1, h2⟩ | ⟨c, hc, h1, h2, h3⟩
  · refine Or.inl ⟨h1, fun c hc => ?_⟩
    cases hh : P c with
    | false => rfl
    | true => rw [← hh]; exact h2 c (key c hc hh)
  · exact Or.inr ⟨c, by omega, h1, h2, fun c' hc' h4 => h3 c' (key c' hc' h4) h4⟩
theorem thI_neg {P : Nat → Bool} {w : Nat → Nat} {i : Nat} {y : Int64} (h : thI P w i y) (hw : ∀ c, w c < 2 ^ 63) (hp : P i = true) (hy : y < 0) : thI P w (i + 1) (lN (w i)) := by
  rcases h with ⟨h1, h2⟩ | ⟨c, hc, h1, h2, h3⟩
  · refine Or.inr ⟨i, by omega, hp, rfl, fun c' hc' h4 => ?_⟩
    rcases Nat.lt_or_ge c' i with q | q
    · rw [h2 c' q] at h4; cases h4
    · have : c' = i := by omega
      rw [this]; exact Nat.le_refl _
  · rw [h2] at hy; exact absurd hy (lN_nneg (hw c))
theorem thI_keep {P : Nat → Bool} {w : Nat → Nat} {i : Nat} {y : Int64} (h : thI P w i y) (hw : ∀ c, w c < 2 ^ 63) (hy : ¬ y < 0) (hl : y ≤ lN (w i)) : thI P w (i + 1) y := by
  rcases h with ⟨h1, h2⟩ | ⟨c, hc, h1, h2, h3⟩
  · rw [h1] at hy; exact absurd (by decide) hy
  · rw [h2, pk_lLE (hw c) (hw i)] at hl
    refine Or.inr ⟨c, by omega, h1, h2, fun c' hc' h4 => ?_⟩
    rcases Nat.lt_or_ge c' i with q | q
    · exact h3 c' q h4
    · have : c' = i := by omega
      rw [this]; exact hl
theorem thI_new {P : Nat → Bool} {w : Nat → Nat} {i : Nat} {y : Int64} (h : thI P w i y) (hw : ∀ c, w c < 2 ^ 63) (hp : P i = true) (hy : ¬ y < 0) (hl : ¬ y ≤ lN (w i)) : thI P w (i + 1) (lN (w i)) := by
  rcases h with ⟨h1, h2⟩ | ⟨c, hc, h1, h2, h3⟩
  · rw [h1] at hy; exact absurd (by decide) hy
  · rw [h2, pk_lLE (hw c) (hw i)] at hl
    refine Or.inr ⟨i, by omega, hp, rfl, fun c' hc' h4 => ?_⟩
    rcases Nat.lt_or_ge c' i with q | q
    · have := h3 c' q h4; omega
    · have : c' = i := by omega
      rw [this]; exact Nat.le_refl _
theorem wsum_le {wt : Nat → Nat} {z : Nat} : ∀ m, (∀ e, e < m → wt e ≤ 1000000000) → wsum wt z m ≤ m * 1000000000
  | 0, _ => Nat.le_refl _
  | m + 1, h => by
    have := wsum_le (z := z) m (fun e he => h e (by omega))
    have h2 := h m (by omega)
    simp only [wsum]
    rw [Nat.succ_mul]
    refine Nat.add_le_add this ?_
    split
    · exact h2
    · exact Nat.zero_le _
theorem gM.wl {nv ne : Nat} {fr to wt : Nat → Nat} {I : Nat → Int32} {A : Nat → Nat → Int32} (g : gM nv ne fr to wt I A) (z : Nat) : wsum wt z ne < 2 ^ 40 := by
  have h := wsum_le (z := z) ne (fun e he => (g.2.2.2.2.2 e he).2.2.2)
  have := g.2.2.1
  omega
theorem or_bit {a i : Nat} (ha : a < 2 ^ i) (hi : i < 31) : nI a ||| nI (2 ^ i) = nI (a + 2 ^ i) := by
  have h1 : a ||| 2 ^ i = a + 2 ^ i := by
    have := Nat.two_pow_add_eq_or_of_lt ha 1
    rw [Nat.mul_one] at this
    rw [Nat.or_comm, ← this, Nat.add_comm]
  rw [← h1]
  apply Int32.toBitVec_inj.1
  show BitVec.ofNat 32 a ||| BitVec.ofNat 32 (2 ^ i) = BitVec.ofNat 32 (a ||| 2 ^ i)
  apply BitVec.eq_of_getLsbD_eq
  intro j hj
  simp [hj]
end
section
-- spans of numbers under xor, and rows with falling top bits
/-- what sums of those that P has can be -/
def spS (P : Nat → Prop) (y : Nat) : Prop := ∀ V : Nat → Prop, V 0 → (∀ a b, V a → V b → V (a ^^^ b)) → (∀ a, P a → V a) → V y
theorem spS_0 (P : Nat → Prop) : spS P 0 := fun _ h _ _ => h
theorem spS_x {P : Nat → Prop} {a b : Nat} (h1 : spS P a) (h2 : spS P b) : spS P (a ^^^ b) := fun V v0 vx vp => vx a b (h1 V v0 vx vp) (h2 V v0 vx vp)
theorem spS_p {P : Nat → Prop} {a : Nat} (h : P a) : spS P a := fun _ _ _ vp => vp a h
theorem spS_in {P Q : Nat → Prop} (h : ∀ a, P a → spS Q a) {y : Nat} (hy : spS P y) : spS Q y := hy (spS Q) (spS_0 Q) (fun _ _ => spS_x) h
theorem xor_self' (a : Nat) : a ^^^ a = 0 := Nat.xor_self a
theorem xor_can (a b : Nat) : (a ^^^ b) ^^^ b = a := by rw [Nat.xor_assoc, Nat.xor_self, Nat.xor_zero]
theorem xor_mid (a b c : Nat) : (a ^^^ c) ^^^ (b ^^^ c) = a ^^^ b := by
  rw [Nat.xor_assoc, ← Nat.xor_assoc c b c, Nat.xor_comm c b, Nat.xor_assoc b c c, Nat.xor_self, Nat.xor_zero]
theorem spS_ins {P : Nat → Prop} {z y : Nat} : spS (fun a => P a ∨ a = z) y ↔ spS P y ∨ spS P (y ^^^ z) := by
  constructor
  · intro h
    refine h (fun y => spS P y ∨ spS P (y ^^^ z)) (Or.inl (spS_0 P)) (fun a b ha hb => ?_) (fun a ha => ?_)
    · rcases ha with ha | ha <;> rcases hb with hb | hb
      · exact Or.inl (spS_x ha hb)
      · exact Or.inr (by have := spS_x ha hb; rwa [← Nat.xor_assoc] at this)
      · refine Or.inr ?_
        have := spS_x ha hb
        rwa [Nat.xor_assoc, Nat.xor_comm z b, ← Nat.xor_assoc] at this
      · exact Or.inl (by have := spS_x ha hb; rwa [xor_mid] at this)
    · rcases ha with ha | ha
      · exact Or.inl (spS_p ha)
      · exact Or.inr (by rw [ha, Nat.xor_self]; exact spS_0 P)
  · rintro (h | h)
    · exact spS_in (fun a ha => spS_p (Or.inl ha)) h
    · have h1 : spS (fun a => P a ∨ a = z) (y ^^^ z) := spS_in (fun a ha => spS_p (Or.inl ha)) h
      have := spS_x h1 (spS_p (Or.inr rfl))
      rwa [xor_can] at this
theorem cb_pow (r : Nat → Nat) {k i : Nat} (hi : i < k) : cb r k (2 ^ i) = r i := by
  refine Nat.eq_of_testBit_eq (fun e => ?_)
  rw [cb_bit, xs_one hi]
  · rw [Nat.testBit_two_pow_self]; simp
  · intro j _ hne
    rw [Nat.testBit_two_pow_of_ne (fun h => hne h.symm)]; rfl
theorem cb_in {P : Nat → Prop} {r : Nat → Nat} : ∀ {k c : Nat}, (∀ i, i < k → spS P (r i)) → spS P (cb r k c)
  | 0, _, _ => spS_0 P
  | k + 1, c, h => by
    refine spS_x (cb_in (fun i hi => h i (by omega))) ?_
    split
    · exact h k (by omega)
    · exact spS_0 P
theorem cb_sp {r : Nat → Nat} {k y : Nat} : (∃ c, y = cb r k c) ↔ spS (fun a => ∃ i, i < k ∧ a = r i) y := by
  constructor
  · rintro ⟨c, rfl⟩
    exact cb_in (fun i hi => spS_p ⟨i, hi, rfl⟩)
  · intro h
    refine h (fun y => ∃ c, y = cb r k c) ⟨0, (cb_0 r k).symm⟩ ?_ ?_
    · rintro a b ⟨c, rfl⟩ ⟨d, rfl⟩
      exact ⟨c ^^^ d, (cb_xor r k c d).symm⟩
    · rintro a ⟨i, hi, rfl⟩
      exact ⟨2 ^ i, (cb_pow r hi).symm⟩
/-- rows whose top bits fall -/
def rowsOK (rd : Nat) (rows : Nat → Nat) : Prop := ∃ tp : Nat → Nat, (∀ i, i < rd → (rows i).testBit (tp i) = true ∧ rows i < 2 ^ (tp i + 1)) ∧ ∀ i j, i < j → j < rd → tp j < tp i
theorem hi_bit {x t j : Nat} (h : x < 2 ^ (t + 1)) (hj : t < j) : x.testBit j = false := Nat.testBit_lt_two_pow (Nat.lt_of_lt_of_le h (Nat.pow_le_pow_right (by omega) (by omega)))
theorem lt_bit {x y i : Nat} (hx : x.testBit i = false) (hy : y.testBit i = true) (h : ∀ j, i < j → x.testBit j = y.testBit j) : x < y := by
  have h1 : x / 2 ^ (i + 1) = y / 2 ^ (i + 1) := Nat.eq_of_testBit_eq (fun j => by rw [Nat.testBit_div_two_pow, Nat.testBit_div_two_pow]; exact h _ (by omega))
  have h2 : x % 2 ^ (i + 1) < 2 ^ i := Nat.lt_pow_two_of_testBit _ (fun j hj => by
    rw [Nat.testBit_mod_two_pow]
    by_cases e : j = i
    · subst e; rw [hx]; simp
    · simp; intro; omega)
  have h3 : 2 ^ i ≤ y % 2 ^ (i + 1) := Nat.ge_two_pow_of_testBit (by rw [Nat.testBit_mod_two_pow, hy]; simp)
  have e1 := Nat.div_add_mod x (2 ^ (i + 1))
  have e2 := Nat.div_add_mod y (2 ^ (i + 1))
  rw [h1] at e1
  omega
theorem xlt {row t y : Nat} (h1 : row.testBit t = true) (h2 : row < 2 ^ (t + 1)) : y ^^^ row < y ↔ y.testBit t = true := by
  have hh : ∀ j, t < j → (y ^^^ row).testBit j = y.testBit j := fun j hj => by rw [Nat.testBit_xor, hi_bit h2 hj]; simp
  constructor
  · intro h
    cases hy : y.testBit t with
    | true => rfl
    | false =>
      have := lt_bit hy (by rw [Nat.testBit_xor, hy, h1]; rfl) (fun j hj => (hh j hj).symm)
      omega
  · intro h
    exact lt_bit (by rw [Nat.testBit_xor, h, h1]; rfl) h hh
theorem rsn_ok {rows : Nat → Nat} {tp : Nat → Nat} {z : Nat} : ∀ k, (∀ i, i < k → (rows i).testBit (tp i) = true ∧ rows i < 2 ^ (tp i + 1)) → (∀ i j, i < j → j < k → tp j < tp i) →
    (∀ i, i < k → (rsn rows k z).testBit (tp i) = false) ∧ spS (fun a => ∃ i, i < k ∧ a = rows i) (z ^^^ rsn rows k z)
  | 0, _, _ => ⟨fun i h => absurd h (Nat.not_lt_zero _), by simp only [rsn]; rw [Nat.xor_self]; exact spS_0 _⟩
  | k + 1, h, ht => by
    obtain ⟨ih1, ih2⟩ := rsn_ok (z := z) k (fun i hi => h i (by omega)) (fun i j hij hj => ht i j hij (by omega))
    have hk := h k (by omega)
    have ih2' : spS (fun a => ∃ i, i < k + 1 ∧ a = rows i) (z ^^^ rsn rows k z) := spS_in (fun a ⟨i, hi, e⟩ => spS_p ⟨i, by omega, e⟩) ih2
    simp only [rsn]
    by_cases hc : rsn rows k z ^^^ rows k < rsn rows k z
    · rw [if_pos hc]
      refine ⟨fun i hi => ?_, ?_⟩
      · rw [Nat.testBit_xor]
        by_cases hik : i = k
        · subst hik; rw [(xlt hk.1 hk.2).mp hc, hk.1]; rfl
        · rw [ih1 i (by omega), hi_bit hk.2 (ht i k (by omega) (by omega))]; rfl
      · rw [← Nat.xor_assoc]; exact spS_x ih2' (spS_p ⟨k, by omega, rfl⟩)
    · rw [if_neg hc]
      refine ⟨fun i hi => ?_, ih2'⟩
      by_cases hik : i = k
      · subst hik; exact bool_f (fun h => hc ((xlt hk.1 hk.2).mpr h))
      · exact ih1 i (by omega)
theorem cb_tops {rows tp : Nat → Nat} {k c : Nat} (h : ∀ i, i < k → (rows i).testBit (tp i) = true ∧ rows i < 2 ^ (tp i + 1)) (ht : ∀ i j, i < j → j < k → tp j < tp i) (h0 : ∀ i, i < k → (cb rows k c).testBit (tp i) = false) : ∀ i, i < k → c.testBit i = false := by
  intro i
  induction i using Nat.strongRecOn with
  | _ i ih =>
    intro hi
    refine bool_f (fun hc => ?_)
    have := h0 i hi
    rw [cb_bit, xs_one hi] at this
    · rw [hc, (h i hi).1] at this; cases this
    · intro j hj hne
      rcases Nat.lt_or_ge j i with q | q
      · rw [ih j q hj]; rfl
      · rw [hi_bit (h j hj).2 (ht i j (by omega) hj)]; simp
theorem cb_none {r : Nat → Nat} {c : Nat} : ∀ k, (∀ i, i < k → c.testBit i = false) → cb r k c = 0
  | 0, _ => rfl
  | k + 1, h => by simp [cb, cb_none k (fun i hi => h i (by omega)), h k (by omega)]
/-- the rows span what P spans -/
def rowsS (rd : Nat) (rows : Nat → Nat) (P : Nat → Prop) : Prop := rowsOK rd rows ∧ ∀ y, spS (fun a => ∃ i, i < rd ∧ a = rows i) y ↔ spS P y
theorem rowsS_0 (rows : Nat → Nat) {P : Nat → Prop} (hP : ∀ a, ¬ P a) : rowsS 0 rows P := by
  refine ⟨⟨fun _ => 0, fun i h => absurd h (Nat.not_lt_zero _), fun i j _ h => absurd h (Nat.not_lt_zero _)⟩, fun y => ⟨spS_in (fun a ⟨i, h, _⟩ => absurd h (Nat.not_lt_zero _)), spS_in (fun a h => absurd h (hP a))⟩⟩
theorem rowsS.rest {rd : Nat} {rows : Nat → Nat} {P : Nat → Prop} (h : rowsS rd rows P) (z : Nat) : rsn rows rd z = 0 ↔ spS P z := by
  obtain ⟨⟨tp, h1, h2⟩, h3⟩ := h
  obtain ⟨a1, a2⟩ := rsn_ok (z := z) rd h1 h2
  rw [← h3]
  constructor
  · intro h; rw [h, Nat.xor_zero] at a2; exact a2
  · intro h
    have h4 : spS (fun a => ∃ i, i < rd ∧ a = rows i) (rsn rows rd z) := by
      have := spS_x h a2
      rwa [← Nat.xor_assoc, Nat.xor_self, Nat.zero_xor] at this
    obtain ⟨c, hc⟩ := cb_sp.mpr h4
    rw [hc] at a1
    rw [hc]; exact cb_none rd (cb_tops h1 h2 a1)
theorem rowsS.rsp {rd : Nat} {rows : Nat → Nat} {P : Nat → Prop} (h : rowsS rd rows P) (z : Nat) : spS P (z ^^^ rsn rows rd z) := by
  obtain ⟨⟨tp, h1, h2⟩, h3⟩ := h
  exact (h3 _).mp (rsn_ok (z := z) rd h1 h2).2
/-- a row comes in at p -/
def insR (rows : Nat → Nat) (p x : Nat) : Nat → Nat := fun j => if j < p then rows j else if j = p then x else rows (j - 1)
theorem insR_ok {rd p x : Nat} {rows : Nat → Nat} (hp : p ≤ rd) (h : rowsOK rd rows) (hx : x ≠ 0) (hz : ∀ tp : Nat → Nat, (∀ i, i < rd → (rows i).testBit (tp i) = true ∧ rows i < 2 ^ (tp i + 1)) → (∀ i j, i < j → j < rd → tp j < tp i) → ∀ i, i < rd → x.testBit (tp i) = false) (h1 : ∀ i, i < p → x ≤ rows i) (h2 : ∀ i, p ≤ i → i < rd → rows i < x) : rowsOK (rd + 1) (insR rows p x) := by
  obtain ⟨tp, t1, t2⟩ := h
  have hzz := hz tp t1 t2
  have hxl : 2 ^ x.log2 ≤ x := Nat.log2_self_le hx
  have hxu : x < 2 ^ (x.log2 + 1) := Nat.lt_log2_self
  have hxb : x.testBit x.log2 = true := by
    rw [Nat.testBit_eq_decide_div_mod_eq]
    have : x / 2 ^ x.log2 = 1 := by
      refine Nat.div_eq_of_lt_le ?_ ?_
      · rw [Nat.one_mul]; exact hxl
      · rw [Nat.pow_succ] at hxu; omega
    rw [this]; rfl
  have hne : ∀ i, i < rd → tp i ≠ x.log2 := fun i hi e => by have := hzz i hi; rw [e, hxb] at this; cases this
  have hlo : ∀ i, i < rd → 2 ^ tp i ≤ rows i := fun i hi => Nat.ge_two_pow_of_testBit (t1 i hi).1
  have hb1 : ∀ i, i < p → x.log2 < tp i := fun i hi => by
    rcases Nat.lt_or_ge x.log2 (tp i) with q | q
    · exact q
    · have q2 : tp i + 1 ≤ x.log2 := by have := hne i (by omega); omega
      have h3 := (t1 i (by omega)).2
      have h4 : 2 ^ (tp i + 1) ≤ 2 ^ x.log2 := Nat.pow_le_pow_right (by omega) q2
      have := h1 i hi; omega
  have hb2 : ∀ i, p ≤ i → i < rd → tp i < x.log2 := fun i hi hr => by
    rcases Nat.lt_or_ge (tp i) x.log2 with q | q
    · exact q
    · have q2 : x.log2 + 1 ≤ tp i := by have := hne i hr; omega
      have h4 : 2 ^ (x.log2 + 1) ≤ 2 ^ tp i := Nat.pow_le_pow_right (by omega) q2
      have := h2 i hi hr; have := hlo i hr; omega
  refine ⟨insR tp p x.log2, fun i hi => ?_, fun i j hij hj => ?_⟩
  · unfold insR
    by_cases a : i < p
    · simp only [if_pos a]; exact t1 i (by omega)
    · by_cases b : i = p
      · simp only [if_neg a, if_pos b]; exact ⟨hxb, hxu⟩
      · simp only [if_neg a, if_neg b]; exact t1 (i - 1) (by omega)
  · unfold insR
    by_cases a : i < p
    · simp only [if_pos a]
      by_cases a2 : j < p
      · simp only [if_pos a2]; exact t2 i j hij (by omega)
      · by_cases b2 : j = p
        · simp only [if_neg a2, if_pos b2]; exact hb1 i a
        · simp only [if_neg a2, if_neg b2]; exact t2 i (j - 1) (by omega) (by omega)
    · have a2 : ¬ j < p := by omega
      have b2 : ¬ j = p := by omega
      simp only [if_neg a, if_neg a2, if_neg b2]
      by_cases b : i = p
      · simp only [if_pos b]; exact hb2 (j - 1) (by omega) (by omega)
      · simp only [if_neg b]; exact t2 (i - 1) (j - 1) (by omega) (by omega)
theorem insR_sp {rd p x : Nat} {rows : Nat → Nat} (hp : p ≤ rd) (y : Nat) : spS (fun a => ∃ i, i < rd + 1 ∧ a = insR rows p x i) y ↔ spS (fun a => (∃ i, i < rd ∧ a = rows i) ∨ a = x) y := by
  constructor
  · refine spS_in (fun a ⟨i, hi, e⟩ => spS_p ?_)
    unfold insR at e
    by_cases h1 : i < p
    · rw [if_pos h1] at e; exact Or.inl ⟨i, by omega, e⟩
    · by_cases h2 : i = p
      · rw [if_neg h1, if_pos h2] at e; exact Or.inr e
      · rw [if_neg h1, if_neg h2] at e; exact Or.inl ⟨i - 1, by omega, e⟩
  · refine spS_in (fun a ha => spS_p ?_)
    rcases ha with ⟨i, hi, e⟩ | e
    · by_cases h1 : i < p
      · exact ⟨i, by omega, by unfold insR; rw [if_pos h1]; exact e⟩
      · exact ⟨i + 1, by omega, by unfold insR; rw [if_neg (by omega), if_neg (by omega)]; exact e⟩
    · exact ⟨p, by omega, by unfold insR; rw [if_neg (by omega), if_pos rfl]; exact e⟩
theorem spS_congr {P Q : Nat → Prop} (h : ∀ y, spS P y ↔ spS Q y) (z y : Nat) : spS (fun a => P a ∨ a = z) y ↔ spS (fun a => Q a ∨ a = z) y := by
  rw [spS_ins, spS_ins, h, h]
/-- what is left of z comes in: then z is spanned too -/
theorem rowsS.ins {rd p z : Nat} {rows : Nat → Nat} {P : Nat → Prop} (h : rowsS rd rows P) (hp : p ≤ rd) (hx : rsn rows rd z ≠ 0) (h1 : ∀ i, i < p → rsn rows rd z ≤ rows i) (h2 : ∀ i, p ≤ i → i < rd → rows i < rsn rows rd z) : rowsS (rd + 1) (insR rows p (rsn rows rd z)) (fun a => P a ∨ a = z) := by
  refine ⟨insR_ok hp h.1 hx (fun tp t1 t2 => (rsn_ok (z := z) rd t1 t2).1) h1 h2, fun y => ?_⟩
  rw [insR_sp hp, spS_congr h.2, spS_ins, spS_ins]
  have hr := h.rsp z
  have e : ∀ y, spS P (y ^^^ rsn rows rd z) ↔ spS P (y ^^^ z) := fun y => ⟨fun h => by
    have := spS_x h hr
    rwa [xor_mid] at this, fun h => by
    have := spS_x h hr
    rwa [Nat.xor_comm z, xor_mid] at this⟩
  rw [e]
theorem rowsS.same {rd z : Nat} {rows : Nat → Nat} {P : Nat → Prop} (h : rowsS rd rows P) (hz : spS P z) : rowsS rd rows (fun a => P a ∨ a = z) := by
  refine ⟨h.1, fun y => ?_⟩
  rw [h.2, spS_ins]
  exact ⟨Or.inl, fun q => q.elim id (fun q => by have := spS_x q hz; rwa [xor_can] at this)⟩
/-- rows below 2 ^ b are b at most -/
theorem rowsOK_le {b : Nat} : ∀ {rd : Nat} {rows : Nat → Nat}, rowsOK rd rows → (∀ i, i < rd → rows i < 2 ^ b) → rd ≤ b := by
  intro rd rows ⟨tp, t1, t2⟩ hb
  have h0 : ∀ i, i < rd → tp i + i < b := by
    intro i
    induction i with
    | zero =>
      intro hi
      have h1 := Nat.ge_two_pow_of_testBit (t1 0 hi).1
      have h2 := hb 0 hi
      exact (Nat.pow_lt_pow_iff_right (by omega : 1 < 2)).mp (by show 2 ^ (tp 0 + 0) < 2 ^ b; rw [Nat.add_zero]; omega)
    | succ i ih =>
      intro hi
      have := ih (by omega)
      have := t2 i (i + 1) (by omega) hi
      omega
  rcases Nat.eq_zero_or_pos rd with h | h
  · omega
  · have := h0 (rd - 1) (by omega); omega
theorem rowsOK.mono {rd : Nat} {rows : Nat → Nat} (h : rowsOK rd rows) {i j : Nat} (hij : i < j) (hj : j < rd) : rows j < rows i := by
  obtain ⟨tp, t1, t2⟩ := h
  have h1 := (t1 j hj).2
  have h2 := Nat.ge_two_pow_of_testBit (t1 i (by omega)).1
  have h3 : 2 ^ (tp j + 1) ≤ 2 ^ tp i := Nat.pow_le_pow_right (by omega) (t2 i j hij hj)
  omega
theorem rowsS.cong {rd : Nat} {rows : Nat → Nat} {P Q : Nat → Prop} (h : rowsS rd rows P) (e : ∀ a, P a ↔ Q a) : rowsS rd rows Q := by
  have : P = Q := funext (fun a => propext (e a))
  rw [← this]; exact h
theorem lt_split {li : Nat → Nat} {i a : Nat} : ((∃ j, j < i ∧ a = li j) ∨ a = li i) ↔ ∃ j, j < i + 1 ∧ a = li j :=
  ⟨fun h => h.elim (fun ⟨j, hj, e⟩ => ⟨j, by omega, e⟩) (fun e => ⟨i, by omega, e⟩), fun ⟨j, hj, e⟩ => by
    by_cases hji : j = i
    · subst hji; exact Or.inr e
    · exact Or.inl ⟨j, by omega, e⟩⟩
/-- how many of the first k of a list are no sums of earlier ones -/
noncomputable def rk (li : Nat → Nat) : Nat → Nat
  | 0 => 0
  | k + 1 => rk li k + @ite Nat (spS (fun a => ∃ i, i < k ∧ a = li i) (li k)) (Classical.propDecidable _) 0 1
theorem rk_in {li : Nat → Nat} {k : Nat} (h : spS (fun a => ∃ i, i < k ∧ a = li i) (li k)) : rk li (k + 1) = rk li k := by
  simp only [rk]; rw [if_pos h, Nat.add_zero]
theorem rk_out {li : Nat → Nat} {k : Nat} (h : ¬ spS (fun a => ∃ i, i < k ∧ a = li i) (li k)) : rk li (k + 1) = rk li k + 1 := by
  simp only [rk]; rw [if_neg h]
/-- all edges but x; the edges apart from v -/
abbrev wo (m x : Nat) : Nat := fl m ^^^ 2 ^ x
theorem wo_bit {m x e : Nat} (he : e < m) : (wo m x).testBit e = true ↔ e ≠ x := by
  rw [Nat.testBit_xor, fl_bit]
  by_cases h : e = x
  · subst h; rw [Nat.testBit_two_pow_self]; simp [he]
  · rw [Nat.testBit_two_pow_of_ne (fun q => h q.symm)]; simp [he, h]
def ap (fr to : Nat → Nat) (m v : Nat) : Nat := nb (fun e => decide (fr e ≠ v ∧ to e ≠ v)) m
theorem ap_bit {fr to : Nat → Nat} {m v e : Nat} (he : e < m) : (ap fr to m v).testBit e = true ↔ fr e ≠ v ∧ to e ≠ v := by
  unfold ap; rw [nb_bit]; simp [he]
def alM (fr to : Nat → Nat) (nv ne k : Nat) : Nat := ct0 k (fun x => decide (gc nv (jRun fr to (fl ne) ne) < gc nv (jRun fr to (wo ne x) ne)))
def ptM (fr to : Nat → Nat) (nv ne k : Nat) : Nat := ct0 k (fun v => decide (gc nv (jRun fr to (fl ne) ne) + 1 < gc nv (jRun fr to (ap fr to ne v) ne)))
abbrev evM (fr to : Nat → Nat) (ne k : Nat) : Prop := ∀ i, i < k → sz (rgA fr to ne i) ne % 2 = 0
/-- what look answers -/
noncomputable def lkM (nv ne : Nat) (fr to : Nat → Nat) (L : Nat) (li : Nat → Nat) (k : Nat) : Nat :=
  if k = 0 then nv else if k = 1 then ne else if k = 2 then gc nv (jRun fr to (fl ne) ne) else if k = 3 then dmA fr to ne else if k = 4 then alM fr to nv ne ne else if k = 5 then (if evM fr to ne (dmA fr to ne) then 1 else 0) else if k = 6 then L else if k = 7 then rk li L else ptM fr to nv ne nv
end
section
-- counting: more than k independent numbers are never sums of k
theorem pig : ∀ (n : Nat) (f : Nat → Nat), (∀ i, i < n + 1 → f i < n) → ∃ i j, i < j ∧ j < n + 1 ∧ f i = f j
  | 0, f, h => absurd (h 0 (by omega)) (Nat.not_lt_zero _)
  | n + 1, f, h => by
    by_cases hv : ∃ i, i < n + 1 ∧ f i = f (n + 1)
    · obtain ⟨i, hi, e⟩ := hv; exact ⟨i, n + 1, hi, by omega, e⟩
    · have hv' : ∀ i, i < n + 1 → f i ≠ f (n + 1) := fun i hi e => hv ⟨i, hi, e⟩
      have hl := h (n + 1) (by omega)
      obtain ⟨i, j, hij, hj, e⟩ := pig n (fun i => if f i = n then f (n + 1) else f i) (fun i hi => by
        show (if f i = n then f (n + 1) else f i) < n
        have h1 := h i (by omega)
        have h2 := hv' i hi
        split
        · omega
        · omega)
      refine ⟨i, j, hij, by omega, ?_⟩
      have e : (if f i = n then f (n + 1) else f i) = (if f j = n then f (n + 1) else f j) := e
      have h1 := hv' i (by omega)
      have h2 := hv' j (by omega)
      by_cases a : f i = n <;> by_cases b : f j = n
      · rw [a, b]
      · rw [if_pos a, if_neg b] at e; exact absurd e.symm h2
      · rw [if_neg a, if_pos b] at e; exact absurd e h1
      · rw [if_neg a, if_neg b] at e; exact e
theorem pigM {M n : Nat} (hM : n < M) (f : Nat → Nat) (h : ∀ i, i < M → f i < n) : ∃ i j, i < j ∧ j < M ∧ f i = f j := by
  obtain ⟨i, j, a, b, c⟩ := pig n f (fun i hi => h i (by omega))
  exact ⟨i, j, a, by omega, c⟩
theorem cb_congr {r : Nat → Nat} {c c' : Nat} : ∀ {k}, (∀ i, i < k → c.testBit i = c'.testBit i) → cb r k c = cb r k c'
  | 0, _ => rfl
  | k + 1, h => by simp only [cb]; rw [cb_congr (fun i hi => h i (by omega)), h k (by omega)]
theorem cb_mod (r : Nat → Nat) (k c : Nat) : cb r k (c % 2 ^ k) = cb r k c := cb_congr (fun i hi => by rw [Nat.testBit_mod_two_pow]; simp [hi])
theorem sp_code {r : Nat → Nat} {k y : Nat} (h : spS (fun a => ∃ i, i < k ∧ a = r i) y) : ∃ c, c < 2 ^ k ∧ y = cb r k c := by
  obtain ⟨c, hc⟩ := cb_sp.mpr h
  exact ⟨c % 2 ^ k, Nat.mod_lt _ (Nat.two_pow_pos k), by rw [cb_mod]; exact hc⟩
theorem no_span {k d : Nat} (rows : Nat → Nat) (hk : k < d) : ∃ y, y < 2 ^ d ∧ ¬ spS (fun a => ∃ i, i < k ∧ a = rows i) y := by
  refine Classical.byContradiction (fun hn => ?_)
  have h1 : ∀ y, ∃ c, y < 2 ^ d → c < 2 ^ k ∧ y = cb rows k c := fun y => by
    by_cases hy : y < 2 ^ d
    · have : spS (fun a => ∃ i, i < k ∧ a = rows i) y := Classical.byContradiction (fun h => hn ⟨y, hy, h⟩)
      obtain ⟨c, a, b⟩ := sp_code this
      exact ⟨c, fun _ => ⟨a, b⟩⟩
    · exact ⟨0, fun h => absurd h hy⟩
  obtain ⟨i, j, a, b, e⟩ := pigM (Nat.pow_lt_pow_right (by omega : 1 < 2) hk) (fun y => Classical.choose (h1 y)) (fun y hy => (Classical.choose_spec (h1 y) hy).1)
  have e1 := (Classical.choose_spec (h1 i) (by omega)).2
  have e2 := (Classical.choose_spec (h1 j) b).2
  have e : Classical.choose (h1 i) = Classical.choose (h1 j) := e
  rw [e] at e1
  rw [← e2] at e1
  omega
/-- no sum of one or more is 0 -/
def ind (f : Nat → Nat) (k : Nat) : Prop := ∀ c, c < 2 ^ k → cb f k c = 0 → c = 0
theorem steinitz {f p : Nat → Nat} {k : Nat} (hf : ind f (k + 1)) (h : ∀ j, j < k + 1 → spS (fun a => ∃ i, i < k ∧ a = p i) (f j)) : False := by
  have h1 : ∀ c, ∃ d, d < 2 ^ k ∧ cb f (k + 1) c = cb p k d := fun c => sp_code (cb_in h)
  obtain ⟨i, j, a, b, e⟩ := pigM (Nat.pow_lt_pow_right (by omega : 1 < 2) (Nat.lt_succ_self k)) (fun c => Classical.choose (h1 c)) (fun c _ => (Classical.choose_spec (h1 c)).1)
  have e1 := (Classical.choose_spec (h1 i)).2
  have e2 := (Classical.choose_spec (h1 j)).2
  have e : Classical.choose (h1 i) = Classical.choose (h1 j) := e
  rw [e, ← e2] at e1
  have h0 : i ^^^ j = 0 := hf _ (Nat.xor_lt_two_pow (by omega) b) (by rw [cb_xor, e1, Nat.xor_self])
  have : i = j := by
    have := congrArg (fun x => x ^^^ j) h0
    simp only [xor_can, Nat.zero_xor] at this
    exact this
  omega
/-- what comes behind, each no sum of those before, is independent -/
theorem ind_of {f : Nat → Nat} : ∀ {k}, (∀ j, j < k → ¬ spS (fun a => ∃ i, i < j ∧ a = f i) (f j)) → ind f k
  | 0, _ => fun c hc _ => by omega
  | k + 1, h => by
    intro c hc h0
    have ih := ind_of (f := f) (k := k) (fun j hj => h j (by omega))
    simp only [cb] at h0
    cases hb : c.testBit k with
    | false =>
      rw [hb] at h0
      simp at h0
      have hlt : c < 2 ^ k := Nat.lt_pow_two_of_testBit _ (fun i hi => by
        by_cases e : i = k
        · rw [e]; exact hb
        · exact Nat.testBit_lt_two_pow (Nat.lt_of_lt_of_le hc (Nat.pow_le_pow_right (by omega) (by omega))))
      exact ih c hlt h0
    | true =>
      rw [hb, if_pos rfl] at h0
      refine absurd ?_ (h k (by omega))
      have e : f k = cb f k c := by
        have := congrArg (fun x => x ^^^ f k) h0
        simp only [xor_can, Nat.zero_xor] at this
        exact this.symm
      rw [e]
      exact cb_in (fun i hi => spS_p ⟨i, hi, rfl⟩)
/-- picked one behind the other, each the lightest of those below D that are no sums of the earlier ones -/
def grd (w : Nat → Nat) (D : Nat) (pk : Nat → Nat) (k : Nat) : Prop := ∀ j, j < k → pk j < D ∧ ¬ spS (fun a => ∃ i, i < j ∧ a = pk i) (pk j) ∧ ∀ x, x < D → ¬ spS (fun a => ∃ i, i < j ∧ a = pk i) x → w (pk j) ≤ w x
/-- the search for the lightest: one looked at more -/
def bst (w : Nat → Nat) (P : Nat → Prop) (x : Nat) (bb : Int32) : Prop := (bb = -1 ∧ ∀ y, y < x → spS P y) ∨ ∃ b0, b0 < x ∧ bb = nI b0 ∧ ¬ spS P b0 ∧ ∀ y, y < x → ¬ spS P y → w b0 ≤ w y
theorem bst_skip {w : Nat → Nat} {P : Nat → Prop} {x : Nat} {bb : Int32} (h : bst w P x bb) (hx : spS P x) : bst w P (x + 1) bb := by
  rcases h with ⟨h1, h2⟩ | ⟨b0, h1, h2, h3, h4⟩
  · refine Or.inl ⟨h1, fun y hy => ?_⟩
    by_cases e : y = x
    · rw [e]; exact hx
    · exact h2 y (by omega)
  · refine Or.inr ⟨b0, by omega, h2, h3, fun y hy hn => ?_⟩
    by_cases e : y = x
    · rw [e] at hn; exact absurd hx hn
    · exact h4 y (by omega) hn
theorem bst_keep {w : Nat → Nat} {P : Nat → Prop} {x b0 : Nat} {bb : Int32} (h0 : b0 < x) (h2 : bb = nI b0) (h3 : ¬ spS P b0) (h4 : ∀ y, y < x → ¬ spS P y → w b0 ≤ w y) (hx : w b0 ≤ w x) : bst w P (x + 1) bb := by
  refine Or.inr ⟨b0, by omega, h2, h3, fun y hy hn => ?_⟩
  by_cases e : y = x
  · rw [e]; exact hx
  · exact h4 y (by omega) hn
theorem bst_new {w : Nat → Nat} {P : Nat → Prop} {x : Nat} {bb : Int32} (h : bst w P x bb) (hx : ¬ spS P x) (hl : ∀ b0, b0 < x → bb = nI b0 → w x ≤ w b0) : bst w P (x + 1) (nI x) := by
  refine Or.inr ⟨x, by omega, rfl, hx, fun y hy hn => ?_⟩
  by_cases e : y = x
  · rw [e]; exact Nat.le_refl _
  · rcases h with ⟨h1, h2⟩ | ⟨b0, h1, h2, h3, h4⟩
    · exact absurd (h2 y (by omega)) hn
    · exact Nat.le_trans (hl b0 h1 h2) (h4 y (by omega) hn)
theorem bst_end {w : Nat → Nat} {P : Nat → Prop} {x : Nat} {bb : Int32} (h : bst w P x bb) (hn : ¬ ∀ y, y < x → spS P y) : ∃ b0, b0 < x ∧ bb = nI b0 ∧ ¬ spS P b0 ∧ ∀ y, y < x → ¬ spS P y → w b0 ≤ w y := h.elim (fun h => absurd h.2 hn) id
/-- one more picked -/
theorem grd_add {w : Nat → Nat} {D k b0 : Nat} {pk : Nat → Nat} (h : grd w D pk k) (h0 : b0 < D) (h1 : ¬ spS (fun a => ∃ j, j < k ∧ a = pk j) b0) (h2 : ∀ y, y < D → ¬ spS (fun a => ∃ j, j < k ∧ a = pk j) y → w b0 ≤ w y) : grd w D (va_up pk k b0) (k + 1) := by
  have hP : ∀ j, j ≤ k → (fun a => ∃ i, i < j ∧ a = va_up pk k b0 i) = (fun a => ∃ i, i < j ∧ a = pk i) := fun j hj => funext (fun a => propext ⟨fun ⟨i, hi, e⟩ => ⟨i, hi, by rw [up_ne (by omega)] at e; exact e⟩, fun ⟨i, hi, e⟩ => ⟨i, hi, by rw [up_ne (by omega)]; exact e⟩⟩)
  intro j hj
  rw [hP j (by omega)]
  by_cases e : j = k
  · subst e; rw [up_self]; exact ⟨h0, h1, h2⟩
  · rw [up_ne e]; exact h j (by omega)
theorem up_P {pk : Nat → Nat} {k b0 a : Nat} : ((∃ j, j < k ∧ a = pk j) ∨ a = b0) ↔ ∃ j, j < k + 1 ∧ a = va_up pk k b0 j := by
  constructor
  · rintro (⟨j, hj, e⟩ | e)
    · exact ⟨j, by omega, by rw [up_ne (by omega)]; exact e⟩
    · exact ⟨k, by omega, by rw [up_self]; exact e⟩
  · rintro ⟨j, hj, e⟩
    by_cases hjk : j = k
    · subst hjk; rw [up_self] at e; exact Or.inr e
    · rw [up_ne hjk] at e; exact Or.inl ⟨j, by omega, e⟩
theorem bst_elim {w : Nat → Nat} {P : Nat → Prop} {x : Nat} {bb : Int32} (h : bst w P x bb) (hn : ¬ bb < 0) : ∃ b0, b0 < x ∧ bb = nI b0 ∧ ¬ spS P b0 ∧ ∀ y, y < x → ¬ spS P y → w b0 ≤ w y := h.elim (fun h => absurd (by rw [h.1]; decide) hn) id
end
section
-- the lightest joins, one behind the other
/-- the first of the lightest edges below k that join two groups -/
def bE1 (fr to wt : Nat → Nat) (q : JS) : Nat → Option Nat
  | 0 => none
  | k + 1 => if q.1 (fr k) = q.1 (to k) then bE1 fr to wt q k else match bE1 fr to wt q k with
    | none => some k
    | some b => if wt k < wt b then some k else some b
def oI (o : Option Nat) : Int32 := match o with
  | none => -1
  | some b => nI b
theorem bE1_in {fr to wt : Nat → Nat} {q : JS} : ∀ {k b}, bE1 fr to wt q k = some b → b < k ∧ q.1 (fr b) ≠ q.1 (to b)
  | 0, b, h => by cases h
  | k + 1, b, h => by
    simp only [bE1] at h
    by_cases hg : q.1 (fr k) = q.1 (to k)
    · rw [if_pos hg] at h; have := bE1_in h; exact ⟨by omega, this.2⟩
    · rw [if_neg hg] at h
      cases hb : bE1 fr to wt q k with
      | none => rw [hb] at h; cases h; exact ⟨by omega, hg⟩
      | some b0 =>
        rw [hb] at h
        simp only [] at h
        have := bE1_in hb
        split at h
        · cases h; exact ⟨by omega, hg⟩
        · cases h; exact ⟨by omega, this.2⟩
theorem bE1_same {fr to wt : Nat → Nat} {q : JS} {k : Nat} (hg : q.1 (fr k) = q.1 (to k)) : bE1 fr to wt q (k + 1) = bE1 fr to wt q k := by simp only [bE1]; rw [if_pos hg]
theorem bE1_first {fr to wt : Nat → Nat} {q : JS} {k : Nat} (hg : q.1 (fr k) ≠ q.1 (to k)) (h : bE1 fr to wt q k = none) : bE1 fr to wt q (k + 1) = some k := by simp only [bE1]; rw [if_neg hg, h]
theorem bE1_less {fr to wt : Nat → Nat} {q : JS} {k b : Nat} (hg : q.1 (fr k) ≠ q.1 (to k)) (h : bE1 fr to wt q k = some b) (hl : wt k < wt b) : bE1 fr to wt q (k + 1) = some k := by simp only [bE1]; rw [if_neg hg, h]; simp only []; rw [if_pos hl]
theorem bE1_keep {fr to wt : Nat → Nat} {q : JS} {k b : Nat} (hg : q.1 (fr k) ≠ q.1 (to k)) (h : bE1 fr to wt q k = some b) (hl : ¬ wt k < wt b) : bE1 fr to wt q (k + 1) = some b := by simp only [bE1]; rw [if_neg hg, h]; simp only []; rw [if_neg hl]
/-- n times the lightest join, and what it weighs -/
def lgo (fr to wt : Nat → Nat) (ne : Nat) : Nat → JS → Nat → Nat
  | 0, _, a => a
  | n + 1, q, a => match bE1 fr to wt q ne with
    | none => a
    | some b => lgo fr to wt ne n (jStep (fr b) (to b) b q) (a + wt b)
theorem lgo_none {fr to wt : Nat → Nat} {ne : Nat} {q : JS} (h : bE1 fr to wt q ne = none) (n a : Nat) : lgo fr to wt ne n q a = a := by
  cases n with
  | zero => rfl
  | succ n => simp only [lgo]; rw [h]
theorem lgo_some {fr to wt : Nat → Nat} {ne b : Nat} {q : JS} (h : bE1 fr to wt q ne = some b) (n a : Nat) : lgo fr to wt ne (n + 1) q a = lgo fr to wt ne n (jStep (fr b) (to b) b q) (a + wt b) := by simp only [lgo]; rw [h]
end
section
set_option maxHeartbeats 4000000 in
set_option maxRecDepth 100000 in
theorem k_X8_isVertex (l : Launch) (dC : Nat → ClassId) (dI : Nat → Nat → Nat) (cI cJ cZ cII cJJ : ClassId) (R : Nat → Nat) (I : Nat → Int32) (A : Nat → Nat → Int32) (B : Nat → Nat → Int64) (v : Int32)  : ctI l (dC, dI) (tyL cI cJ cZ cII cJJ) (MW cI cJ cZ R) yX8_isVertex wsX8_isVertex (0, 0) [.ref (R 0), .int v] (I, A, B) (fun r u => r = (if v < 0 then 0 else if I 1 ≤ v then 0 else 1) ∧ u = (I, A, B)) := by
  refine ctI_intro (cc := cX8_isVertex) (maxL := 2) (by decide) rfl (Nat.le_of_ble_eq_true rfl) ?_
  intro p e s m below meth c ls Aa Q F hK hN hP hD hS hA hl hret
  have hx := F.1
  have hb := F.2.1
  have hown : s.vm.findClass RX8 = some m.cls := F.2.2.2.1
  have hts := F.2.2.2.2
  have hinX8 : ∀ w ∈ wsX80, w ∈ wsX8_isVertex := by decide +kernel
  have hf7 := hts (.fieldLink RX8 7 "CycleHouseModel" "n" "I") (by decide +kernel)
  have hl : lv_has ls 2 [(0, .ref (R 0)), (1, .int v)] := hl
  refine lv_iload_n hx hb dX8_isVertex_0 rfl (lv_at hl 1 rfl) ?_
  refine lv_if_lt (tgt := 16) hx hb dX8_isVertex_1 (by decide) (fun c1 => ?_) (fun c1 => ?_)
  · -- 1 taken
    refine lv_iconst (v := 0) hx hb dX8_isVertex_16 (by decide) ?_
    refine hret 17 ls _ _ 0 (I, A, B) dX8_isVertex_17 rfl ?_ hP hD hS
    try dsimp only
    exact ⟨by simp [*], rfl⟩
  · -- 1 not
    refine lv_iload_n hx hb dX8_isVertex_4 rfl (lv_at hl 1 rfl) ?_
    refine lv_aload_n hx hb dX8_isVertex_5 rfl (lv_at hl 0 rfl) ?_
    refine va_get (D := (dC, dI)) (ci := 8) (v := .int (I 1)) (C := RX8) (T := TX8) (N := 20) hx hb hts hinX8 hown hK hP 0 rfl rfl 1 (by decide) hf7 (fun _ h9 => h9) rfl dX8_isVertex_6 ?_
    refine lv_icmp_ge (tgt := 16) hx hb dX8_isVertex_9 (by decide) (fun c9 => ?_) (fun c9 => ?_)
    · -- 9 taken
      refine lv_iconst (v := 0) hx hb dX8_isVertex_16 (by decide) ?_
      refine hret 17 ls _ _ 0 (I, A, B) dX8_isVertex_17 rfl ?_ hP hD hS
      try dsimp only
      exact ⟨by simp [*], rfl⟩
    · -- 9 not
      refine lv_iconst (v := 1) hx hb dX8_isVertex_12 (by decide) ?_
      refine lv_goto (tgt := 17) hx hb dX8_isVertex_13 (by decide) ?_
      refine hret 17 ls _ _ 1 (I, A, B) dX8_isVertex_17 rfl ?_ hP hD hS
      try dsimp only
      exact ⟨by simp [*], rfl⟩
set_option maxHeartbeats 4000000 in
set_option maxRecDepth 100000 in
theorem k_X8_isSet (l : Launch) (dC : Nat → ClassId) (dI : Nat → Nat → Nat) (cI cJ cZ cII cJJ : ClassId) (R : Nat → Nat) (I : Nat → Int32) (A : Nat → Nat → Int32) (B : Nat → Nat → Int64) (z : Int64)  : ctI l (dC, dI) (tyL cI cJ cZ cII cJJ) (MW cI cJ cZ R) yX8_isSet wsX8_isSet (0, 0) [.ref (R 0), .long z] (I, A, B) (fun r u => r = (if (z.toUInt64 >>> ((I 2).toInt64.toUInt64 &&& Int64.toUInt64 63)).toInt64 = 0 then 1 else 0) ∧ u = (I, A, B)) := by
  refine ctI_intro (cc := cX8_isSet) (maxL := 3) (by decide) rfl (Nat.le_of_ble_eq_true rfl) ?_
  intro p e s m below meth c ls Aa Q F hK hN hP hD hS hA hl hret
  have hx := F.1
  have hb := F.2.1
  have hown : s.vm.findClass RX8 = some m.cls := F.2.2.2.1
  have hts := F.2.2.2.2
  have hinX8 : ∀ w ∈ wsX80, w ∈ wsX8_isSet := by decide +kernel
  have hf61 := hts (.fieldLink RX8 61 "CycleHouseModel" "m" "I") (by decide +kernel)
  have hl : lv_has ls 3 [(0, .ref (R 0)), (1, .long z)] := hl
  refine lv_lload_n hx hb dX8_isSet_0 rfl (lv_at hl 1 rfl) ?_
  refine lv_aload_n hx hb dX8_isSet_1 rfl (lv_at hl 0 rfl) ?_
  refine va_get (D := (dC, dI)) (ci := 8) (v := .int (I 2)) (C := RX8) (T := TX8) (N := 20) hx hb hts hinX8 hown hK hP 0 rfl rfl 2 (by decide) hf61 (fun _ h9 => h9) rfl dX8_isSet_2 ?_
  refine lv_lushr hx hb dX8_isSet_5 rfl ?_
  refine lv_topl (fun x5 ex5 => ?_)
  refine lv_lconst (v := 0) hx hb dX8_isSet_6 (by decide) ?_
  refine W.lcmp hx hb dX8_isSet_7 ?_
  refine lv_if_ne (tgt := 15) hx hb dX8_isSet_8 (by decide) (fun c8 => ?_) (fun c8 => ?_)
  · -- 8 taken
    rw [lg_cmp_eq] at c8
    refine lv_iconst (v := 0) hx hb dX8_isSet_15 (by decide) ?_
    refine hret 16 ls _ _ 0 (I, A, B) dX8_isSet_16 rfl ?_ hP hD hS
    try dsimp only
    exact ⟨by rw [ex5] at c8; simp [c8], rfl⟩
  · -- 8 not
    rw [lg_cmp_eq] at c8
    refine lv_iconst (v := 1) hx hb dX8_isSet_11 (by decide) ?_
    refine lv_goto (tgt := 16) hx hb dX8_isSet_12 (by decide) ?_
    refine hret 16 ls _ _ 1 (I, A, B) dX8_isSet_16 rfl ?_ hP hD hS
    try dsimp only
    exact ⟨by rw [ex5] at c8; simp [c8], rfl⟩
set_option maxHeartbeats 4000000 in
set_option maxRecDepth 100000 in
theorem k_X8_throwing (l : Launch) (dC : Nat → ClassId) (dI : Nat → Nat → Nat) (cI cJ cZ cII cJJ : ClassId) (R : Nat → Nat) (I : Nat → Int32) (A : Nat → Nat → Int32) (B : Nat → Nat → Int64) (o t : Int32)  : ctI l (dC, dI) (tyL cI cJ cZ cII cJJ) (MW cI cJ cZ R) yX8_throwing wsX8_throwing (0, 0) [.ref (R 0), .int o, .int t] (I, A, B) (fun r u => r = (if o = 0 then (if t = 0 then 0 else 1) else 1) ∧ u = (va_up I 0 (if o = 0 then (if t = 0 then 0 else 2) else 1), A, B)) := by
  refine ctI_intro (cc := cX8_throwing) (maxL := 3) (by decide) rfl (Nat.le_of_ble_eq_true rfl) ?_
  intro p e s m below meth c ls Aa Q F hK hN hP hD hS hA hl hret
  have hx := F.1
  have hb := F.2.1
  have hown : s.vm.findClass RX8 = some m.cls := F.2.2.2.1
  have hts := F.2.2.2.2
  have hinX8 : ∀ w ∈ wsX80, w ∈ wsX8_throwing := by decide +kernel
  have hf58 := hts (.fieldLink RX8 58 "CycleHouseModel" "thrown" "I") (by decide +kernel)
  have hl : lv_has ls 3 [(0, .ref (R 0)), (1, .int o), (2, .int t)] := hl
  refine lv_aload_n hx hb dX8_throwing_0 rfl (lv_at hl 0 rfl) ?_
  have K18 : ∀ (tv : Int32) (ls : Array Slot) (H : Heap) (locs : List Loc), (tv = (if o = 0 then (if t = 0 then 0 else 2) else 1)) → va_P (dC, dI) vwCl (MW cI cJ cZ R (I, A, B)) H → va_D Aa (MW cI cJ cZ R (I, A, B)) → va_S Aa s.heap H locs → lv_has ls 3 [(0, .ref (R 0)), (1, .int o), (2, .int t)] → W p l e (ctR (0, 0)) s m #[.ref (R 0), .int o, .int t] below meth c H locs 0 0 Q (F0 m 18 ls [.int tv, .ref (R 0)]) := by
    intro tv ls H locs inv18 hP hD hS hl
    refine va_put (D := (dC, dI)) (ci := 8) (v := .int tv) (ty := .int) (C := RX8) (T := TX8) (N := 20) hx hb hts hinX8 tyX8 tyX8_ok nmX8 hown hK hP hD hS 0 rfl rfl 0 (by decide) hf58 (fun _ h9 => h9) rfl (by decide +kernel) rfl rfl (Nat.le_of_ble_eq_true rfl) dX8_throwing_18 (fun H locs hP hD hS => ?_)
    obtain ⟨I18, eI18⟩ : ∃ z : Nat → Int32, z = va_up I 0 tv := ⟨_, rfl⟩
    have hP : va_P (dC, dI) vwCl (MW cI cJ cZ R (I18, A, B)) H := by rw [eI18]; exact hP
    have hD : va_D Aa (MW cI cJ cZ R (I18, A, B)) := by rw [eI18]; exact hD
    refine lv_aload_n hx hb dX8_throwing_21 rfl (lv_at hl 0 rfl) ?_
    refine va_get (D := (dC, dI)) (ci := 8) (v := .int (I18 0)) (C := RX8) (T := TX8) (N := 20) hx hb hts hinX8 hown hK hP 0 rfl rfl 0 (by decide) hf58 (fun _ h9 => h9) rfl dX8_throwing_22 ?_
    refine lv_if_le (tgt := 32) hx hb dX8_throwing_25 (by decide) (fun c25 => ?_) (fun c25 => ?_)
    · -- 25 taken
      refine lv_iconst (v := 0) hx hb dX8_throwing_32 (by decide) ?_
      refine hret 33 ls _ _ 0 (I18, A, B) dX8_throwing_33 rfl ?_ hP hD hS
      try dsimp only
      exact ⟨by rw [eI18, up_self, inv18] at c25; split at c25 <;> (try split at c25) <;> simp_all, by rw [eI18, inv18]⟩
    · -- 25 not
      refine lv_iconst (v := 1) hx hb dX8_throwing_28 (by decide) ?_
      refine lv_goto (tgt := 33) hx hb dX8_throwing_29 (by decide) ?_
      refine hret 33 ls _ _ 1 (I18, A, B) dX8_throwing_33 rfl ?_ hP hD hS
      try dsimp only
      exact ⟨by rw [eI18, up_self, inv18] at c25; split at c25 <;> (try split at c25) <;> simp_all, by rw [eI18, inv18]⟩
  refine lv_iload_n hx hb dX8_throwing_1 rfl (lv_at hl 1 rfl) ?_
  refine lv_if_eq (tgt := 9) hx hb dX8_throwing_2 (by decide) (fun c2 => ?_) (fun c2 => ?_)
  · -- 2 taken
    refine lv_iload_n hx hb dX8_throwing_9 rfl (lv_at hl 2 rfl) ?_
    refine lv_if_eq (tgt := 17) hx hb dX8_throwing_10 (by decide) (fun c10 => ?_) (fun c10 => ?_)
    · -- 10 taken
      refine lv_iconst (v := 0) hx hb dX8_throwing_17 (by decide) ?_
      exact K18 0 ls _ _  (by simp [*]) hP hD hS (lv_sub hl [0, 1, 2] rfl)
    · -- 10 not
      refine lv_iconst (v := 2) hx hb dX8_throwing_13 (by decide) ?_
      refine lv_goto (tgt := 18) hx hb dX8_throwing_14 (by decide) ?_
      exact K18 2 ls _ _  (by simp [*]) hP hD hS (lv_sub hl [0, 1, 2] rfl)
  · -- 2 not
    refine lv_iconst (v := 1) hx hb dX8_throwing_5 (by decide) ?_
    refine lv_goto (tgt := 18) hx hb dX8_throwing_6 (by decide) ?_
    exact K18 1 ls _ _  (by simp [*]) hP hD hS (lv_sub hl [0, 1, 2] rfl)
set_option maxHeartbeats 4000000 in
set_option maxRecDepth 100000 in
theorem k_X8_beginGroups (l : Launch) (dC : Nat → ClassId) (dI : Nat → Nat → Nat) (cI cJ cZ cII cJJ : ClassId) (R : Nat → Nat) (I : Nat → Int32) (A : Nat → Nat → Int32) (B : Nat → Nat → Int64)   : ctV l (dC, dI) (tyL cI cJ cZ cII cJJ) (MW cI cJ cZ R) yX8_beginGroups wsX8_beginGroups (0, 0) [.ref (R 0)] (I, A, B) (fun u => (∀ N, N ≤ 16 → rJ N j0 u.1 u.2.1 u.2.2) ∧ fJ I A B u) := by
  refine ctV_intro (cc := cX8_beginGroups) (maxL := 2) (by decide) rfl (Nat.le_of_ble_eq_true rfl) ?_
  intro p e s m below meth c ls Aa Q F hK hN hP hD hS hA hl hret
  have hx := F.1
  have hb := F.2.1
  have hown : s.vm.findClass RX8 = some m.cls := F.2.2.2.1
  have hts := F.2.2.2.2
  have hinX8 : ∀ w ∈ wsX80, w ∈ wsX8_beginGroups := by decide +kernel
  have hf64 := hts (.fieldLink RX8 64 "CycleHouseModel" "closed" "I") (by decide +kernel)
  have hf27 := hts (.fieldLink RX8 27 "CycleHouseModel" "group" "[I") (by decide +kernel)
  have hf30 := hts (.fieldLink RX8 30 "CycleHouseModel" "ways" "[J") (by decide +kernel)
  have hl : lv_has ls 2 [(0, .ref (R 0))] := hl
  refine lv_aload_n hx hb dX8_beginGroups_0 rfl (lv_at hl 0 rfl) ?_
  refine lv_iconst (v := 0) hx hb dX8_beginGroups_1 (by decide) ?_
  refine va_put (D := (dC, dI)) (ci := 8) (v := .int 0) (ty := .int) (C := RX8) (T := TX8) (N := 20) hx hb hts hinX8 tyX8 tyX8_ok nmX8 hown hK hP hD hS 0 rfl rfl 10 (by decide) hf64 (fun _ h9 => h9) rfl (by decide +kernel) rfl rfl (Nat.le_of_ble_eq_true rfl) dX8_beginGroups_2 (fun H locs hP hD hS => ?_)
  obtain ⟨I2, eI2⟩ : ∃ z : Nat → Int32, z = va_up I 10 0 := ⟨_, rfl⟩
  have hP : va_P (dC, dI) vwCl (MW cI cJ cZ R (I2, A, B)) H := by rw [eI2]; exact hP
  have hD : va_D Aa (MW cI cJ cZ R (I2, A, B)) := by rw [eI2]; exact hD
  refine lv_iconst (v := 0) hx hb dX8_beginGroups_5 (by decide) ?_
  refine lv_istore_n (lv' := [(1, .int 0), (0, .ref (R 0))]) hx hb dX8_beginGroups_6 rfl hl (by decide) rfl (fun ls hl => ?_)
  have K7 : ∀ (kn : Nat) (i : Nat) (x : Int32) (A_7 : Nat → Nat → Int32) (B_7 : Nat → Nat → Int64) (ls : Array Slot) (H : Heap) (locs : List Loc), 16 - i < kn → (x = nI i ∧ i ≤ 16 ∧ (∀ k, k ≠ 8 → A_7 k = A k) ∧ (∀ v, v < i → A_7 8 v = nI v) ∧ (∀ k, k ≠ 9 → B_7 k = B k) ∧ ∀ v, v < i → B_7 9 v = 0) → va_P (dC, dI) vwCl (MW cI cJ cZ R (I2, A_7, B_7)) H → va_D Aa (MW cI cJ cZ R (I2, A_7, B_7)) → va_S Aa s.heap H locs → lv_has ls 2 [(0, .ref (R 0)), (1, .int x)] → W p l e (ctR (0, 0)) s m #[.ref (R 0)] below meth c H locs 0 0 Q (F0 m 7 ls []) := by
    intro kn
    induction kn with
    | zero => intro i x A_7 B_7 ls H locs hmu; exact absurd hmu (Nat.not_lt_zero _)
    | succ kn ih7 =>
      intro i x A_7 B_7 ls H locs mu7 inv7 hP hD hS hl
      obtain ⟨ex, hi, a1, a2, b1, b2⟩ := inv7
      refine lv_iload_n hx hb dX8_beginGroups_7 rfl (lv_at hl 1 rfl) ?_
      refine lv_bipush (v := 16) hx hb dX8_beginGroups_8 (by decide) ?_
      refine lv_icmp_ge (tgt := 33) hx hb dX8_beginGroups_10 (by decide) (fun c10 => ?_) (fun c10 => ?_)
      · -- 10 taken
        have hge : i = 16 := Nat.le_antisymm hi (Nat.le_of_not_lt (fun h => nI_ge h (by omega) (by rw [← ex]; exact c10)))
        refine hret 33 ls _ _ (I2, A_7, B_7) dX8_beginGroups_33 ?_ hP hD hS
        try dsimp only
        exact ⟨fun N hN => ⟨fun v hv => ⟨a2 v (by omega), hv⟩, fun v hv => b2 v (by omega), by rw [eI2, up_self]; rfl, fun i hi => absurd hi (Nat.not_lt_zero _)⟩, fJ.of (fun k hk => by rw [eI2, up_ne hk]) (fun k hk _ => a1 k hk) (fun k hk _ => b1 k hk)⟩
      · -- 10 not
        have hlt : i < 16 := Nat.lt_of_not_le (fun h => c10 (by rw [ex]; exact nI_le (a := 16) h (by omega)))
        have ecl : x.toNatClampNeg = i := by rw [ex]; exact nI_clamp (by omega)
        have hin : vp_in x 16 := by rw [ex]; exact vp_in_nI hlt (by omega)
        refine lv_aload_n hx hb dX8_beginGroups_13 rfl (lv_at hl 0 rfl) ?_
        refine va_get (D := (dC, dI)) (ci := 8) (v := .ref (R 8)) (C := RX8) (T := TX8) (N := 20) hx hb hts hinX8 hown hK hP 0 rfl rfl 8 (by decide) hf27 (fun _ h9 => h9) rfl dX8_beginGroups_14 ?_
        refine lv_iload_n hx hb dX8_beginGroups_17 rfl (lv_at hl 1 rfl) ?_
        refine lv_iload_n hx hb dX8_beginGroups_18 rfl (lv_at hl 1 rfl) ?_
        have h19 : vp_in x 16 := hin
        refine va_iast hx hb hK hP hD hS 5 0 rfl rfl h19 dX8_beginGroups_19 (fun H locs hP hD hS => ?_)
        obtain ⟨A19, eA19⟩ : ∃ z : Nat → Nat → Int32, z = va_up A_7 8 (upd (A_7 8) x.toNatClampNeg x) := ⟨_, rfl⟩
        have hP : va_P (dC, dI) vwCl (MW cI cJ cZ R (I2, A19, B_7)) H := by rw [eA19]; exact hP
        have hD : va_D Aa (MW cI cJ cZ R (I2, A19, B_7)) := by rw [eA19]; exact hD
        refine lv_aload_n hx hb dX8_beginGroups_20 rfl (lv_at hl 0 rfl) ?_
        refine va_get (D := (dC, dI)) (ci := 8) (v := .ref (R 9)) (C := RX8) (T := TX8) (N := 20) hx hb hts hinX8 hown hK hP 0 rfl rfl 9 (by decide) hf30 (fun _ h9 => h9) rfl dX8_beginGroups_21 ?_
        refine lv_iload_n hx hb dX8_beginGroups_24 rfl (lv_at hl 1 rfl) ?_
        refine lv_lconst (v := 0) hx hb dX8_beginGroups_25 (by decide) ?_
        have h26 : vp_in x 16 := hin
        refine va_last hx hb hK hP hD hS 6 1 rfl rfl h26 dX8_beginGroups_26 (fun H locs hP hD hS => ?_)
        obtain ⟨B26, eB26⟩ : ∃ z : Nat → Nat → Int64, z = va_up B_7 9 (vp_updL (B_7 9) x.toNatClampNeg 0) := ⟨_, rfl⟩
        have hP : va_P (dC, dI) vwCl (MW cI cJ cZ R (I2, A19, B26)) H := by rw [eB26]; exact hP
        have hD : va_D Aa (MW cI cJ cZ R (I2, A19, B26)) := by rw [eB26]; exact hD
        obtain ⟨x27, ex27⟩ : ∃ y : Int32, y = x + (1) := ⟨_, rfl⟩
        refine lv_iinc (v := x27) (lv' := [(1, .int x27), (0, .ref (R 0))]) hx hb dX8_beginGroups_27 hl (k := 1) rfl (by rw [ex27]; rfl) (by decide) rfl (fun ls hl => ?_)
        refine lv_goto (tgt := 7) hx hb dX8_beginGroups_30 (by decide) ?_
        exact ih7 (i + 1) x27 A19 B26 ls _ _ (by omega) ⟨by rw [ex27, ex]; exact nI_1 i, by omega, fun k hk => by rw [eA19, up_ne hk]; exact a1 k hk, fun v hv => by
            rw [eA19, up_self, ecl]
            by_cases hvi : v = i
            · rw [hvi, pk_us, ex]
            · rw [pk_un hvi]; exact a2 v (by omega), fun k hk => by rw [eB26, up_ne hk]; exact b1 k hk, fun v hv => by
            rw [eB26, up_self, ecl]
            by_cases hvi : v = i
            · rw [hvi, pk_uLs]
            · rw [pk_uLn hvi]; exact b2 v (by omega)⟩ hP hD hS (lv_sub hl [1, 0] rfl)
  exact K7 _ 0 0 A B ls _ _ (Nat.lt_succ_self _) ⟨rfl, by omega, fun _ _ => rfl, fun v h => absurd h (by omega), fun _ _ => rfl, fun v h => absurd h (by omega)⟩ hP hD hS (lv_sub hl [1, 0] rfl)
set_option maxHeartbeats 4000000 in
set_option maxRecDepth 100000 in
theorem k_X8_weightOf (l : Launch) (dC : Nat → ClassId) (dI : Nat → Nat → Nat) (cI cJ cZ cII cJJ : ClassId) (R : Nat → Nat) (I : Nat → Int32) (A : Nat → Nat → Int32) (B : Nat → Nat → Int64) (nv ne : Nat) (fr to wt : Nat → Nat) (z : Nat) (g : gM nv ne fr to wt I A) (hz : z < 2 ^ 62) : ctL l (dC, dI) (tyL cI cJ cZ cII cJJ) (MW cI cJ cZ R) yX8_weightOf wsX8_weightOf (0, 0) [.ref (R 0), .long (lN z)] (I, A, B) (fun r u => r = lN (wsum wt z ne) ∧ u = (I, A, B)) := by
  refine ctL_intro (cc := cX8_weightOf) (maxL := 6) (by decide) rfl (Nat.le_of_ble_eq_true rfl) ?_
  intro p e s m below meth c ls Aa Q F hK hN hP hD hS hA hl hret
  have hx := F.1
  have hb := F.2.1
  have hown : s.vm.findClass RX8 = some m.cls := F.2.2.2.1
  have hts := F.2.2.2.2
  have hinX8 : ∀ w ∈ wsX80, w ∈ wsX8_weightOf := by decide +kernel
  have hf61 := hts (.fieldLink RX8 61 "CycleHouseModel" "m" "I") (by decide +kernel)
  have hf20 := hts (.fieldLink RX8 20 "CycleHouseModel" "weight" "[I") (by decide +kernel)
  have hl : lv_has ls 6 [(0, .ref (R 0)), (1, .long (lN z))] := hl
  obtain ⟨g1, g2, g3, g4, g5, g6⟩ := g
  refine lv_lconst (v := 0) hx hb dX8_weightOf_0 (by decide) ?_
  refine lv_lstore_n (lv' := [(3, .long 0), (0, .ref (R 0)), (1, .long (lN z))]) hx hb dX8_weightOf_1 rfl hl (by decide) rfl (fun ls hl => ?_)
  refine lv_iconst (v := 0) hx hb dX8_weightOf_2 (by decide) ?_
  refine lv_istore (lv' := [(5, .int 0), (3, .long 0), (0, .ref (R 0)), (1, .long (lN z))]) hx hb dX8_weightOf_3 hl (by decide) rfl (fun ls hl => ?_)
  have K5 : ∀ (kn : Nat) (i : Nat) (y : Int64) (x : Int32) (ls : Array Slot) (H : Heap) (locs : List Loc), ne - i < kn → (x = nI i ∧ i ≤ ne ∧ y = lN (wsum wt z i)) → va_P (dC, dI) vwCl (MW cI cJ cZ R (I, A, B)) H → va_D Aa (MW cI cJ cZ R (I, A, B)) → va_S Aa s.heap H locs → lv_has ls 6 [(0, .ref (R 0)), (1, .long (lN z)), (3, .long y), (5, .int x)] → W p l e (ctR (0, 0)) s m #[.ref (R 0), .long (lN z)] below meth c H locs 0 0 Q (F0 m 5 ls []) := by
    intro kn
    induction kn with
    | zero => intro i y x ls H locs hmu; exact absurd hmu (Nat.not_lt_zero _)
    | succ kn ih5 =>
      intro i y x ls H locs mu5 inv5 hP hD hS hl
      obtain ⟨ex, hi, ey⟩ := inv5
      refine lv_iload hx hb dX8_weightOf_5 (lv_at hl 3 rfl) ?_
      refine lv_aload_n hx hb dX8_weightOf_7 rfl (lv_at hl 0 rfl) ?_
      refine va_get (D := (dC, dI)) (ci := 8) (v := .int (I 2)) (C := RX8) (T := TX8) (N := 20) hx hb hts hinX8 hown hK hP 0 rfl rfl 2 (by decide) hf61 (fun _ h9 => h9) rfl dX8_weightOf_8 ?_
      refine lv_icmp_ge (tgt := 42) hx hb dX8_weightOf_11 (by decide) (fun c11 => ?_) (fun c11 => ?_)
      · -- 11 taken
        rw [ex, g5, nI_leI (by omega) (by omega)] at c11
        have hge : i = ne := by omega
        refine lv_lload_n hx hb dX8_weightOf_42 rfl (lv_at hl 2 rfl) ?_
        refine hret 43 ls _ _ y (I, A, B) dX8_weightOf_43 ?_ hP hD hS
        try dsimp only
        exact ⟨by rw [ey, hge], rfl⟩
      · -- 11 not
        rw [ex, g5, nI_leI (by omega) (by omega)] at c11
        have ecl : x.toNatClampNeg = i := by rw [ex]; exact nI_clamp (by omega)
        have hin : vp_in x 40 := by rw [ex]; exact vp_in_nI (by omega) (by omega)
        have gw := g6 i (by omega)
        refine lv_lload_n hx hb dX8_weightOf_14 rfl (lv_at hl 1 rfl) ?_
        refine lv_iload hx hb dX8_weightOf_15 (lv_at hl 3 rfl) ?_
        refine lv_lshr hx hb dX8_weightOf_17 rfl ?_
        refine lv_topl (fun x17 ex17 => ?_)
        refine lv_lconst (v := 1) hx hb dX8_weightOf_18 (by decide) ?_
        refine lv_land hx hb dX8_weightOf_19 ?_
        refine lv_topl (fun x19 ex19 => ?_)
        refine lv_lconst (v := 1) hx hb dX8_weightOf_20 (by decide) ?_
        refine W.lcmp hx hb dX8_weightOf_21 ?_
        refine lv_if_ne (tgt := 36) hx hb dX8_weightOf_22 (by decide) (fun c22 => ?_) (fun c22 => ?_)
        · -- 22 taken
          rw [lg_cmp_eq] at c22
          rw [ex19, ex17, ex, nm_bit1 hz (by omega)] at c22
          obtain ⟨x36, ex36⟩ : ∃ y : Int32, y = x + (1) := ⟨_, rfl⟩
          refine lv_iinc (v := x36) (lv' := [(5, .int x36), (0, .ref (R 0)), (1, .long (lN z)), (3, .long y)]) hx hb dX8_weightOf_36 hl (k := 3) rfl (by rw [ex36]; rfl) (by decide) rfl (fun ls hl => ?_)
          refine lv_goto (tgt := 5) hx hb dX8_weightOf_39 (by decide) ?_
          exact ih5 (i + 1) y x36 ls _ _ (by omega) ⟨by rw [ex36, ex]; exact nI_1 i, by omega, by rw [ey, wsum, if_neg c22, Nat.add_zero]⟩ hP hD hS (lv_sub hl [1, 2, 3, 0] rfl)
        · -- 22 not
          rw [lg_cmp_eq] at c22
          rw [ex19, ex17, ex, nm_bit1 hz (by omega)] at c22
          refine lv_lload_n hx hb dX8_weightOf_25 rfl (lv_at hl 2 rfl) ?_
          refine lv_aload_n hx hb dX8_weightOf_26 rfl (lv_at hl 0 rfl) ?_
          refine va_get (D := (dC, dI)) (ci := 8) (v := .ref (R 5)) (C := RX8) (T := TX8) (N := 20) hx hb hts hinX8 hown hK hP 0 rfl rfl 5 (by decide) hf20 (fun _ h9 => h9) rfl dX8_weightOf_27 ?_
          refine lv_iload hx hb dX8_weightOf_30 (lv_at hl 3 rfl) ?_
          have h32 : vp_in x 40 := hin
          refine va_iald hx hb hK hP 3 0 rfl rfl h32 dX8_weightOf_32 ?_
          refine lv_topi (fun x32 ex32 => ?_)
          have ex32 : x32 = A 5 x.toNatClampNeg := ex32
          refine lv_i2l hx hb dX8_weightOf_33 rfl ?_
          refine lv_topl (fun x33 ex33 => ?_)
          refine lv_ladd hx hb dX8_weightOf_34 ?_
          refine lv_topl (fun x34 ex34 => ?_)
          refine lv_lstore_n (lv' := [(3, .long x34), (0, .ref (R 0)), (1, .long (lN z)), (5, .int x)]) hx hb dX8_weightOf_35 rfl hl (by decide) rfl (fun ls hl => ?_)
          obtain ⟨x36, ex36⟩ : ∃ y : Int32, y = x + (1) := ⟨_, rfl⟩
          refine lv_iinc (v := x36) (lv' := [(5, .int x36), (3, .long x34), (0, .ref (R 0)), (1, .long (lN z))]) hx hb dX8_weightOf_36 hl (k := 3) rfl (by rw [ex36]; rfl) (by decide) rfl (fun ls hl => ?_)
          refine lv_goto (tgt := 5) hx hb dX8_weightOf_39 (by decide) ?_
          exact ih5 (i + 1) x34 x36 ls _ _ (by omega) ⟨by rw [ex36, ex]; exact nI_1 i, by omega, by rw [ex34, ey, ex33, ex32, ecl, gw.2.2.1, nm_il (by have := gw.2.2.2; omega), lN_add, wsum, if_pos c22]⟩ hP hD hS (lv_sub hl [2, 3, 1, 0] rfl)
  exact K5 _ 0 0 0 ls _ _ (Nat.lt_succ_self _) ⟨rfl, by omega, rfl⟩ hP hD hS (lv_sub hl [2, 3, 1, 0] rfl)
end
section
set_option maxHeartbeats 4000000 in
set_option maxRecDepth 100000 in
theorem k_X8_joins (l : Launch) (dC : Nat → ClassId) (dI : Nat → Nat → Nat) (cI cJ cZ cII cJJ : ClassId) (R : Nat → Nat) (I : Nat → Int32) (A : Nat → Nat → Int32) (B : Nat → Nat → Int64) (nv ne : Nat) (fr to wt : Nat → Nat) (k : Nat) (q : JS) (g : gM nv ne fr to wt I A) (hk : k < ne) (hq : rJ nv q I A B) (hd : q.2.2.1 < 40) : ctI l (dC, dI) (tyL cI cJ cZ cII cJJ) (MW cI cJ cZ R) yX8_joins wsX8_joins (0, 0) [.ref (R 0), .int (nI k)] (I, A, B) (fun r u => r = (if q.1 (fr k) = q.1 (to k) then 0 else 1) ∧ rJ nv (jStep (fr k) (to k) k q) u.1 u.2.1 u.2.2 ∧ fJ I A B u) := by
  refine ctI_intro (cc := cX8_joins) (maxL := 8) (by decide) rfl (Nat.le_of_ble_eq_true rfl) ?_
  intro p e s m below meth c ls Aa Q F hK hN hP hD hS hA hl hret
  have hx := F.1
  have hb := F.2.1
  have hown : s.vm.findClass RX8 = some m.cls := F.2.2.2.1
  have hts := F.2.2.2.2
  have hinX8 : ∀ w ∈ wsX80, w ∈ wsX8_joins := by decide +kernel
  have hf13 := hts (.fieldLink RX8 13 "CycleHouseModel" "from" "[I") (by decide +kernel)
  have hf17 := hts (.fieldLink RX8 17 "CycleHouseModel" "to" "[I") (by decide +kernel)
  have hf27 := hts (.fieldLink RX8 27 "CycleHouseModel" "group" "[I") (by decide +kernel)
  have hf33 := hts (.fieldLink RX8 33 "CycleHouseModel" "closing" "[J") (by decide +kernel)
  have hf64 := hts (.fieldLink RX8 64 "CycleHouseModel" "closed" "I") (by decide +kernel)
  have hf30 := hts (.fieldLink RX8 30 "CycleHouseModel" "ways" "[J") (by decide +kernel)
  have hf36 := hts (.fieldLink RX8 36 "CycleHouseModel" "closer" "[I") (by decide +kernel)
  have hf7 := hts (.fieldLink RX8 7 "CycleHouseModel" "n" "I") (by decide +kernel)
  have hl : lv_has ls 8 [(0, .ref (R 0)), (1, .int (nI k))] := hl
  obtain ⟨g1, g2, g3, g4, g5, g6⟩ := g
  obtain ⟨q1, q2, q3, q4⟩ := id hq
  obtain ⟨⟨ga, ha⟩, ⟨gb, hb2⟩, -, -⟩ := g6 k hk
  have kcl : (nI k).toNatClampNeg = k := nI_clamp (by omega)
  have kin : vp_in (nI k) 40 := vp_in_nI (by omega) (by omega)
  have acl : (nI (fr k)).toNatClampNeg = fr k := nI_clamp (by omega)
  have bcl : (nI (to k)).toNatClampNeg = to k := nI_clamp (by omega)
  have dcl : (I 10).toNatClampNeg = q.2.2.1 := by rw [q3]; exact nI_clamp (by omega)
  have gA := (q1 _ ha).2
  have gB := (q1 _ hb2).2
  refine lv_aload_n hx hb dX8_joins_0 rfl (lv_at hl 0 rfl) ?_
  refine va_get (D := (dC, dI)) (ci := 8) (v := .ref (R 3)) (C := RX8) (T := TX8) (N := 20) hx hb hts hinX8 hown hK hP 0 rfl rfl 3 (by decide) hf13 (fun _ h9 => h9) rfl dX8_joins_1 ?_
  refine lv_iload_n hx hb dX8_joins_4 rfl (lv_at hl 1 rfl) ?_
  have h5 : vp_in (nI k) 40 := kin
  refine va_iald hx hb hK hP 1 0 rfl rfl h5 dX8_joins_5 ?_
  refine lv_topi (fun x5 ex5 => ?_)
  have ex5 : x5 = A 3 (nI k).toNatClampNeg := ex5
  have ex5 : x5 = nI (fr k) := by rw [ex5, kcl]; exact ga
  subst ex5
  refine lv_istore_n (lv' := [(2, .int (nI (fr k))), (0, .ref (R 0)), (1, .int (nI k))]) hx hb dX8_joins_6 rfl hl (by decide) rfl (fun ls hl => ?_)
  refine lv_aload_n hx hb dX8_joins_7 rfl (lv_at hl 1 rfl) ?_
  refine va_get (D := (dC, dI)) (ci := 8) (v := .ref (R 4)) (C := RX8) (T := TX8) (N := 20) hx hb hts hinX8 hown hK hP 0 rfl rfl 4 (by decide) hf17 (fun _ h9 => h9) rfl dX8_joins_8 ?_
  refine lv_iload_n hx hb dX8_joins_11 rfl (lv_at hl 2 rfl) ?_
  have h12 : vp_in (nI k) 40 := kin
  refine va_iald hx hb hK hP 2 0 rfl rfl h12 dX8_joins_12 ?_
  refine lv_topi (fun x12 ex12 => ?_)
  have ex12 : x12 = A 4 (nI k).toNatClampNeg := ex12
  have ex12 : x12 = nI (to k) := by rw [ex12, kcl]; exact gb
  subst ex12
  refine lv_istore_n (lv' := [(3, .int (nI (to k))), (2, .int (nI (fr k))), (0, .ref (R 0)), (1, .int (nI k))]) hx hb dX8_joins_13 rfl hl (by decide) rfl (fun ls hl => ?_)
  refine lv_aload_n hx hb dX8_joins_14 rfl (lv_at hl 2 rfl) ?_
  refine va_get (D := (dC, dI)) (ci := 8) (v := .ref (R 8)) (C := RX8) (T := TX8) (N := 20) hx hb hts hinX8 hown hK hP 0 rfl rfl 8 (by decide) hf27 (fun _ h9 => h9) rfl dX8_joins_15 ?_
  refine lv_iload_n hx hb dX8_joins_18 rfl (lv_at hl 1 rfl) ?_
  have h19 : vp_in (nI (fr k)) 16 := vp_in_nI (by omega) (by omega)
  refine va_iald hx hb hK hP 5 0 rfl rfl h19 dX8_joins_19 ?_
  refine lv_topi (fun x19 ex19 => ?_)
  have ex19 : x19 = A 8 (nI (fr k)).toNatClampNeg := ex19
  have ex19 : x19 = nI (q.1 (fr k)) := by rw [ex19, acl]; exact (q1 _ ha).1
  refine lv_aload_n hx hb dX8_joins_20 rfl (lv_at hl 2 rfl) ?_
  refine va_get (D := (dC, dI)) (ci := 8) (v := .ref (R 8)) (C := RX8) (T := TX8) (N := 20) hx hb hts hinX8 hown hK hP 0 rfl rfl 8 (by decide) hf27 (fun _ h9 => h9) rfl dX8_joins_21 ?_
  refine lv_iload_n hx hb dX8_joins_24 rfl (lv_at hl 0 rfl) ?_
  have h25 : vp_in (nI (to k)) 16 := vp_in_nI (by omega) (by omega)
  refine va_iald hx hb hK hP 5 0 rfl rfl h25 dX8_joins_25 ?_
  refine lv_topi (fun x25 ex25 => ?_)
  have ex25 : x25 = A 8 (nI (to k)).toNatClampNeg := ex25
  have ex25 : x25 = nI (q.1 (to k)) := by rw [ex25, bcl]; exact (q1 _ hb2).1
  refine lv_icmp_ne (tgt := 77) hx hb dX8_joins_26 (by decide) (fun c26 => ?_) (fun c26 => ?_)
  · -- 26 taken
    rw [ex19, ex25, nI_eq (by omega) (by omega)] at c26
    refine lv_aload_n hx hb dX8_joins_77 rfl (lv_at hl 2 rfl) ?_
    refine va_get (D := (dC, dI)) (ci := 8) (v := .ref (R 8)) (C := RX8) (T := TX8) (N := 20) hx hb hts hinX8 hown hK hP 0 rfl rfl 8 (by decide) hf27 (fun _ h9 => h9) rfl dX8_joins_78 ?_
    refine lv_iload_n hx hb dX8_joins_81 rfl (lv_at hl 0 rfl) ?_
    have h82 : vp_in (nI (to k)) 16 := vp_in_nI (by omega) (by omega)
    refine va_iald hx hb hK hP 5 0 rfl rfl h82 dX8_joins_82 ?_
    refine lv_topi (fun x82 ex82 => ?_)
    have ex82 : x82 = A 8 (nI (to k)).toNatClampNeg := ex82
    have ex82 : x82 = nI (q.1 (to k)) := by rw [ex82, bcl]; exact (q1 _ hb2).1
    refine lv_istore (lv' := [(4, .int x82), (3, .int (nI (to k))), (2, .int (nI (fr k))), (0, .ref (R 0)), (1, .int (nI k))]) hx hb dX8_joins_83 hl (by decide) rfl (fun ls hl => ?_)
    refine lv_aload_n hx hb dX8_joins_85 rfl (lv_at hl 3 rfl) ?_
    refine va_get (D := (dC, dI)) (ci := 8) (v := .ref (R 9)) (C := RX8) (T := TX8) (N := 20) hx hb hts hinX8 hown hK hP 0 rfl rfl 9 (by decide) hf30 (fun _ h9 => h9) rfl dX8_joins_86 ?_
    refine lv_iload_n hx hb dX8_joins_89 rfl (lv_at hl 2 rfl) ?_
    have h90 : vp_in (nI (fr k)) 16 := vp_in_nI (by omega) (by omega)
    refine va_lald hx hb hK hP 6 1 rfl rfl h90 dX8_joins_90 ?_
    refine lv_topl (fun x90 ex90 => ?_)
    have ex90 : x90 = B 9 (nI (fr k)).toNatClampNeg := ex90
    refine lv_aload_n hx hb dX8_joins_91 rfl (lv_at hl 3 rfl) ?_
    refine va_get (D := (dC, dI)) (ci := 8) (v := .ref (R 9)) (C := RX8) (T := TX8) (N := 20) hx hb hts hinX8 hown hK hP 0 rfl rfl 9 (by decide) hf30 (fun _ h9 => h9) rfl dX8_joins_92 ?_
    refine lv_iload_n hx hb dX8_joins_95 rfl (lv_at hl 1 rfl) ?_
    have h96 : vp_in (nI (to k)) 16 := vp_in_nI (by omega) (by omega)
    refine va_lald hx hb hK hP 6 1 rfl rfl h96 dX8_joins_96 ?_
    refine lv_topl (fun x96 ex96 => ?_)
    have ex96 : x96 = B 9 (nI (to k)).toNatClampNeg := ex96
    refine lv_lxor hx hb dX8_joins_97 ?_
    refine lv_topl (fun x97 ex97 => ?_)
    refine lv_lconst (v := 1) hx hb dX8_joins_98 (by decide) ?_
    refine lv_iload_n hx hb dX8_joins_99 rfl (lv_at hl 4 rfl) ?_
    refine lv_lshl hx hb dX8_joins_100 rfl ?_
    refine lv_topl (fun x100 ex100 => ?_)
    refine lv_lxor hx hb dX8_joins_101 ?_
    refine lv_topl (fun x101 ex101 => ?_)
    have ex101 : x101 = lN (jr q (fr k) (to k) k) := by rw [ex101, ex97, ex90, ex96, acl, bcl, q2 _ ha, q2 _ hb2, ex100, nm_pow (by omega), lN_xor, lN_xor]; rfl
    refine lv_lstore (lv' := [(5, .long x101), (4, .int x82), (3, .int (nI (to k))), (2, .int (nI (fr k))), (0, .ref (R 0)), (1, .int (nI k))]) hx hb dX8_joins_102 hl (by decide) rfl (fun ls hl => ?_)
    refine lv_iconst (v := 0) hx hb dX8_joins_104 (by decide) ?_
    refine lv_istore (lv' := [(7, .int 0), (5, .long x101), (4, .int x82), (3, .int (nI (to k))), (2, .int (nI (fr k))), (0, .ref (R 0)), (1, .int (nI k))]) hx hb dX8_joins_105 hl (by decide) rfl (fun ls hl => ?_)
    have K107 : ∀ (kn : Nat) (i : Nat) (x : Int32) (A_107 : Nat → Nat → Int32) (B_107 : Nat → Nat → Int64) (ls : Array Slot) (H : Heap) (locs : List Loc), nv - i < kn → (x = nI i ∧ i ≤ nv ∧ (∀ k, k ≠ 8 → A_107 k = A k) ∧ (∀ v, v < nv → A_107 8 v = nI (if v < i ∧ q.1 v = q.1 (to k) then q.1 (fr k) else q.1 v)) ∧ (∀ k, k ≠ 9 → B_107 k = B k) ∧ ∀ v, v < nv → B_107 9 v = lN (if v < i ∧ q.1 v = q.1 (to k) then q.2.1 v ^^^ jr q (fr k) (to k) k else q.2.1 v)) → va_P (dC, dI) vwCl (MW cI cJ cZ R (I, A_107, B_107)) H → va_D Aa (MW cI cJ cZ R (I, A_107, B_107)) → va_S Aa s.heap H locs → lv_has ls 8 [(0, .ref (R 0)), (1, .int (nI k)), (2, .int (nI (fr k))), (3, .int (nI (to k))), (4, .int x82), (5, .long x101), (7, .int x)] → W p l e (ctR (0, 0)) s m #[.ref (R 0), .int (nI k)] below meth c H locs 0 0 Q (F0 m 107 ls []) := by
      intro kn
      induction kn with
      | zero => intro i x A_107 B_107 ls H locs hmu; exact absurd hmu (Nat.not_lt_zero _)
      | succ kn ih107 =>
        intro i x A_107 B_107 ls H locs mu107 inv107 hP hD hS hl
        obtain ⟨ex, hi, a1, a2, b1, b2⟩ := inv107
        refine lv_iload hx hb dX8_joins_107 (lv_at hl 6 rfl) ?_
        refine lv_aload_n hx hb dX8_joins_109 rfl (lv_at hl 0 rfl) ?_
        refine va_get (D := (dC, dI)) (ci := 8) (v := .int (I 1)) (C := RX8) (T := TX8) (N := 20) hx hb hts hinX8 hown hK hP 0 rfl rfl 1 (by decide) hf7 (fun _ h9 => h9) rfl dX8_joins_110 ?_
        refine lv_icmp_ge (tgt := 162) hx hb dX8_joins_113 (by decide) (fun c113 => ?_) (fun c113 => ?_)
        · -- 113 taken
          rw [ex, g4, nI_leI (by omega) (by omega)] at c113
          have hge : i = nv := by omega
          subst hge
          refine lv_iconst (v := 1) hx hb dX8_joins_162 (by decide) ?_
          refine hret 163 ls _ _ 1 (I, A_107, B_107) dX8_joins_163 rfl ?_ hP hD hS
          try dsimp only
          exact ⟨by rw [if_neg c26], rJ_join hq ha c26 rfl (b1 _ (by decide)) (a1 _ (by decide)) (fun v hv => by rw [a2 v hv]; simp only [hv, true_and]) (fun v hv => by rw [b2 v hv]; simp only [hv, true_and]),
          fJ.of (fun k _ => rfl) (fun k hk _ => a1 k hk) (fun k hk _ => b1 k hk)⟩
        · -- 113 not
          rw [ex, g4, nI_leI (by omega) (by omega)] at c113
          have ecl : x.toNatClampNeg = i := by rw [ex]; exact nI_clamp (by omega)
          have hin : vp_in x 16 := by rw [ex]; exact vp_in_nI (by omega) (by omega)
          have gi := (q1 i (by omega)).2
          refine lv_aload_n hx hb dX8_joins_116 rfl (lv_at hl 0 rfl) ?_
          refine va_get (D := (dC, dI)) (ci := 8) (v := .ref (R 8)) (C := RX8) (T := TX8) (N := 20) hx hb hts hinX8 hown hK hP 0 rfl rfl 8 (by decide) hf27 (fun _ h9 => h9) rfl dX8_joins_117 ?_
          refine lv_iload hx hb dX8_joins_120 (lv_at hl 6 rfl) ?_
          have h122 : vp_in x 16 := hin
          refine va_iald hx hb hK hP 5 0 rfl rfl h122 dX8_joins_122 ?_
          refine lv_topi (fun x122 ex122 => ?_)
          have ex122 : x122 = A_107 8 x.toNatClampNeg := ex122
          have ex122 : x122 = nI (q.1 i) := by rw [ex122, ecl, a2 i (by omega), if_neg (fun h => absurd h.1 (Nat.lt_irrefl _))]
          refine lv_iload hx hb dX8_joins_123 (lv_at hl 4 rfl) ?_
          refine lv_icmp_eq (tgt := 131) hx hb dX8_joins_125 (by decide) (fun c125 => ?_) (fun c125 => ?_)
          · -- 125 taken
            rw [ex122, ex82, nI_eq (by omega) (by omega)] at c125
            refine lv_aload_n hx hb dX8_joins_131 rfl (lv_at hl 0 rfl) ?_
            refine va_get (D := (dC, dI)) (ci := 8) (v := .ref (R 8)) (C := RX8) (T := TX8) (N := 20) hx hb hts hinX8 hown hK hP 0 rfl rfl 8 (by decide) hf27 (fun _ h9 => h9) rfl dX8_joins_132 ?_
            refine lv_iload hx hb dX8_joins_135 (lv_at hl 6 rfl) ?_
            refine lv_aload_n hx hb dX8_joins_137 rfl (lv_at hl 0 rfl) ?_
            refine va_get (D := (dC, dI)) (ci := 8) (v := .ref (R 8)) (C := RX8) (T := TX8) (N := 20) hx hb hts hinX8 hown hK hP 0 rfl rfl 8 (by decide) hf27 (fun _ h9 => h9) rfl dX8_joins_138 ?_
            refine lv_iload_n hx hb dX8_joins_141 rfl (lv_at hl 2 rfl) ?_
            have h142 : vp_in (nI (fr k)) 16 := vp_in_nI (by omega) (by omega)
            refine va_iald hx hb hK hP 5 0 rfl rfl h142 dX8_joins_142 ?_
            refine lv_topi (fun x142 ex142 => ?_)
            have ex142 : x142 = A_107 8 (nI (fr k)).toNatClampNeg := ex142
            have ex142 : x142 = nI (q.1 (fr k)) := by rw [ex142, acl, a2 _ ha, if_neg (fun h => c26 h.2)]
            have h143 : vp_in x 16 := hin
            refine va_iast hx hb hK hP hD hS 5 0 rfl rfl h143 dX8_joins_143 (fun H locs hP hD hS => ?_)
            obtain ⟨A143, eA143⟩ : ∃ z : Nat → Nat → Int32, z = va_up A_107 8 (upd (A_107 8) x.toNatClampNeg x142) := ⟨_, rfl⟩
            have hP : va_P (dC, dI) vwCl (MW cI cJ cZ R (I, A143, B_107)) H := by rw [eA143]; exact hP
            have hD : va_D Aa (MW cI cJ cZ R (I, A143, B_107)) := by rw [eA143]; exact hD
            refine lv_aload_n hx hb dX8_joins_144 rfl (lv_at hl 0 rfl) ?_
            refine va_get (D := (dC, dI)) (ci := 8) (v := .ref (R 9)) (C := RX8) (T := TX8) (N := 20) hx hb hts hinX8 hown hK hP 0 rfl rfl 9 (by decide) hf30 (fun _ h9 => h9) rfl dX8_joins_145 ?_
            refine lv_iload hx hb dX8_joins_148 (lv_at hl 6 rfl) ?_
            refine lv_dup2_11 hx hb dX8_joins_150 rfl rfl ?_
            have h151 : vp_in x 16 := hin
            refine va_lald hx hb hK hP 6 1 rfl rfl h151 dX8_joins_151 ?_
            refine lv_topl (fun x151 ex151 => ?_)
            have ex151 : x151 = B_107 9 x.toNatClampNeg := ex151
            have ex151 : x151 = lN (q.2.1 i) := by rw [ex151, ecl, b2 i (by omega), if_neg (fun h => absurd h.1 (Nat.lt_irrefl _))]
            refine lv_lload hx hb dX8_joins_152 (lv_at hl 5 rfl) ?_
            refine lv_lxor hx hb dX8_joins_154 ?_
            refine lv_topl (fun x154 ex154 => ?_)
            have ex154 : x154 = lN (q.2.1 i ^^^ jr q (fr k) (to k) k) := by rw [ex154, ex151, ex101, lN_xor]
            have h155 : vp_in x 16 := hin
            refine va_last hx hb hK hP hD hS 6 1 rfl rfl h155 dX8_joins_155 (fun H locs hP hD hS => ?_)
            obtain ⟨B155, eB155⟩ : ∃ z : Nat → Nat → Int64, z = va_up B_107 9 (vp_updL (B_107 9) x.toNatClampNeg x154) := ⟨_, rfl⟩
            have hP : va_P (dC, dI) vwCl (MW cI cJ cZ R (I, A143, B155)) H := by rw [eB155]; exact hP
            have hD : va_D Aa (MW cI cJ cZ R (I, A143, B155)) := by rw [eB155]; exact hD
            obtain ⟨x156, ex156⟩ : ∃ y : Int32, y = x + (1) := ⟨_, rfl⟩
            refine lv_iinc (v := x156) (lv' := [(7, .int x156), (0, .ref (R 0)), (1, .int (nI k)), (2, .int (nI (fr k))), (3, .int (nI (to k))), (4, .int x82), (5, .long x101)]) hx hb dX8_joins_156 hl (k := 6) rfl (by rw [ex156]; rfl) (by decide) rfl (fun ls hl => ?_)
            refine lv_goto (tgt := 107) hx hb dX8_joins_159 (by decide) ?_
            exact ih107 (i + 1) x156 A143 B155 ls _ _ (by omega) ⟨by rw [ex156, ex]; exact nI_1 i, by omega, fun k hk => by rw [eA143, up_ne hk]; exact a1 k hk, fun v hv => by
                rw [eA143, up_self, ecl]
                by_cases hvi : v = i
                · subst hvi; rw [pk_us, ex142, if_pos ⟨by omega, c125⟩]
                · rw [pk_un hvi, a2 v hv]; simp only [show (v < i + 1) = (v < i) from propext ⟨fun h => by omega, fun h => by omega⟩], fun k hk => by rw [eB155, up_ne hk]; exact b1 k hk, fun v hv => by
                rw [eB155, up_self, ecl]
                by_cases hvi : v = i
                · subst hvi; rw [pk_uLs, ex154, if_pos ⟨by omega, c125⟩]
                · rw [pk_uLn hvi, b2 v hv]; simp only [show (v < i + 1) = (v < i) from propext ⟨fun h => by omega, fun h => by omega⟩]⟩ hP hD hS (lv_sub hl [1, 2, 3, 4, 5, 6, 0] rfl)
          · -- 125 not
            rw [ex122, ex82, nI_eq (by omega) (by omega)] at c125
            refine lv_goto (tgt := 156) hx hb dX8_joins_128 (by decide) ?_
            obtain ⟨x156, ex156⟩ : ∃ y : Int32, y = x + (1) := ⟨_, rfl⟩
            refine lv_iinc (v := x156) (lv' := [(7, .int x156), (0, .ref (R 0)), (1, .int (nI k)), (2, .int (nI (fr k))), (3, .int (nI (to k))), (4, .int x82), (5, .long x101)]) hx hb dX8_joins_156 hl (k := 6) rfl (by rw [ex156]; rfl) (by decide) rfl (fun ls hl => ?_)
            refine lv_goto (tgt := 107) hx hb dX8_joins_159 (by decide) ?_
            exact ih107 (i + 1) x156 A_107 B_107 ls _ _ (by omega) ⟨by rw [ex156, ex]; exact nI_1 i, by omega, a1, fun v hv => by
                rw [a2 v hv]; by_cases hvi : v = i
                · subst hvi; rw [if_neg (fun h => c125 h.2), if_neg (fun h => c125 h.2)]
                · simp only [show (v < i + 1) = (v < i) from propext ⟨fun h => by omega, fun h => by omega⟩], b1, fun v hv => by
                rw [b2 v hv]; by_cases hvi : v = i
                · subst hvi; rw [if_neg (fun h => c125 h.2), if_neg (fun h => c125 h.2)]
                · simp only [show (v < i + 1) = (v < i) from propext ⟨fun h => by omega, fun h => by omega⟩]⟩ hP hD hS (lv_sub hl [1, 2, 3, 4, 5, 6, 0] rfl)
    exact K107 _ 0 0 A B ls _ _ (Nat.lt_succ_self _) ⟨rfl, by omega, fun _ _ => rfl, fun v hv => by rw [if_neg (fun h => absurd h.1 (Nat.not_lt_zero _))]; exact (q1 v hv).1, fun _ _ => rfl, fun v hv => by rw [if_neg (fun h => absurd h.1 (Nat.not_lt_zero _))]; exact q2 v hv⟩ hP hD hS (lv_sub hl [5, 6, 4, 3, 2, 1, 0] rfl)
  · -- 26 not
    rw [ex19, ex25, nI_eq (by omega) (by omega)] at c26
    refine lv_aload_n hx hb dX8_joins_29 rfl (lv_at hl 2 rfl) ?_
    refine va_get (D := (dC, dI)) (ci := 8) (v := .ref (R 11)) (C := RX8) (T := TX8) (N := 20) hx hb hts hinX8 hown hK hP 0 rfl rfl 11 (by decide) hf33 (fun _ h9 => h9) rfl dX8_joins_30 ?_
    refine lv_aload_n hx hb dX8_joins_33 rfl (lv_at hl 2 rfl) ?_
    refine va_get (D := (dC, dI)) (ci := 8) (v := .int (I 10)) (C := RX8) (T := TX8) (N := 20) hx hb hts hinX8 hown hK hP 0 rfl rfl 10 (by decide) hf64 (fun _ h9 => h9) rfl dX8_joins_34 ?_
    refine lv_aload_n hx hb dX8_joins_37 rfl (lv_at hl 2 rfl) ?_
    refine va_get (D := (dC, dI)) (ci := 8) (v := .ref (R 9)) (C := RX8) (T := TX8) (N := 20) hx hb hts hinX8 hown hK hP 0 rfl rfl 9 (by decide) hf30 (fun _ h9 => h9) rfl dX8_joins_38 ?_
    refine lv_iload_n hx hb dX8_joins_41 rfl (lv_at hl 1 rfl) ?_
    have h42 : vp_in (nI (fr k)) 16 := vp_in_nI (by omega) (by omega)
    refine va_lald hx hb hK hP 6 1 rfl rfl h42 dX8_joins_42 ?_
    refine lv_topl (fun x42 ex42 => ?_)
    have ex42 : x42 = B 9 (nI (fr k)).toNatClampNeg := ex42
    refine lv_aload_n hx hb dX8_joins_43 rfl (lv_at hl 2 rfl) ?_
    refine va_get (D := (dC, dI)) (ci := 8) (v := .ref (R 9)) (C := RX8) (T := TX8) (N := 20) hx hb hts hinX8 hown hK hP 0 rfl rfl 9 (by decide) hf30 (fun _ h9 => h9) rfl dX8_joins_44 ?_
    refine lv_iload_n hx hb dX8_joins_47 rfl (lv_at hl 0 rfl) ?_
    have h48 : vp_in (nI (to k)) 16 := vp_in_nI (by omega) (by omega)
    refine va_lald hx hb hK hP 6 1 rfl rfl h48 dX8_joins_48 ?_
    refine lv_topl (fun x48 ex48 => ?_)
    have ex48 : x48 = B 9 (nI (to k)).toNatClampNeg := ex48
    refine lv_lxor hx hb dX8_joins_49 ?_
    refine lv_topl (fun x49 ex49 => ?_)
    refine lv_lconst (v := 1) hx hb dX8_joins_50 (by decide) ?_
    refine lv_iload_n hx hb dX8_joins_51 rfl (lv_at hl 3 rfl) ?_
    refine lv_lshl hx hb dX8_joins_52 rfl ?_
    refine lv_topl (fun x52 ex52 => ?_)
    refine lv_lxor hx hb dX8_joins_53 ?_
    refine lv_topl (fun x53 ex53 => ?_)
    have ex53 : x53 = lN (jr q (fr k) (to k) k) := by rw [ex53, ex49, ex42, ex48, acl, bcl, q2 _ ha, q2 _ hb2, ex52, nm_pow (by omega), lN_xor, lN_xor]; rfl
    have h54 : vp_in (I 10) 40 := by rw [q3]; exact vp_in_nI (by omega) (by omega)
    refine va_last hx hb hK hP hD hS 7 1 rfl rfl h54 dX8_joins_54 (fun H locs hP hD hS => ?_)
    obtain ⟨B54, eB54⟩ : ∃ z : Nat → Nat → Int64, z = va_up B 11 (vp_updL (B 11) (I 10).toNatClampNeg x53) := ⟨_, rfl⟩
    have hP : va_P (dC, dI) vwCl (MW cI cJ cZ R (I, A, B54)) H := by rw [eB54]; exact hP
    have hD : va_D Aa (MW cI cJ cZ R (I, A, B54)) := by rw [eB54]; exact hD
    refine lv_aload_n hx hb dX8_joins_55 rfl (lv_at hl 2 rfl) ?_
    refine va_get (D := (dC, dI)) (ci := 8) (v := .ref (R 12)) (C := RX8) (T := TX8) (N := 20) hx hb hts hinX8 hown hK hP 0 rfl rfl 12 (by decide) hf36 (fun _ h9 => h9) rfl dX8_joins_56 ?_
    refine lv_aload_n hx hb dX8_joins_59 rfl (lv_at hl 2 rfl) ?_
    refine va_get (D := (dC, dI)) (ci := 8) (v := .int (I 10)) (C := RX8) (T := TX8) (N := 20) hx hb hts hinX8 hown hK hP 0 rfl rfl 10 (by decide) hf64 (fun _ h9 => h9) rfl dX8_joins_60 ?_
    refine lv_iload_n hx hb dX8_joins_63 rfl (lv_at hl 3 rfl) ?_
    have h64 : vp_in (I 10) 40 := by rw [q3]; exact vp_in_nI (by omega) (by omega)
    refine va_iast hx hb hK hP hD hS 8 0 rfl rfl h64 dX8_joins_64 (fun H locs hP hD hS => ?_)
    obtain ⟨A64, eA64⟩ : ∃ z : Nat → Nat → Int32, z = va_up A 12 (upd (A 12) (I 10).toNatClampNeg (nI k)) := ⟨_, rfl⟩
    have hP : va_P (dC, dI) vwCl (MW cI cJ cZ R (I, A64, B54)) H := by rw [eA64]; exact hP
    have hD : va_D Aa (MW cI cJ cZ R (I, A64, B54)) := by rw [eA64]; exact hD
    refine lv_aload_n hx hb dX8_joins_65 rfl (lv_at hl 2 rfl) ?_
    refine lv_dup hx hb dX8_joins_66 rfl ?_
    refine va_get (D := (dC, dI)) (ci := 8) (v := .int (I 10)) (C := RX8) (T := TX8) (N := 20) hx hb hts hinX8 hown hK hP 0 rfl rfl 10 (by decide) hf64 (fun _ h9 => h9) rfl dX8_joins_67 ?_
    refine lv_iconst (v := 1) hx hb dX8_joins_70 (by decide) ?_
    refine lv_iadd hx hb dX8_joins_71 ?_
    refine lv_topi (fun x71 ex71 => ?_)
    refine va_put (D := (dC, dI)) (ci := 8) (v := .int x71) (ty := .int) (C := RX8) (T := TX8) (N := 20) hx hb hts hinX8 tyX8 tyX8_ok nmX8 hown hK hP hD hS 0 rfl rfl 10 (by decide) hf64 (fun _ h9 => h9) rfl (by decide +kernel) rfl rfl (Nat.le_of_ble_eq_true rfl) dX8_joins_72 (fun H locs hP hD hS => ?_)
    obtain ⟨I72, eI72⟩ : ∃ z : Nat → Int32, z = va_up I 10 x71 := ⟨_, rfl⟩
    have hP : va_P (dC, dI) vwCl (MW cI cJ cZ R (I72, A64, B54)) H := by rw [eI72]; exact hP
    have hD : va_D Aa (MW cI cJ cZ R (I72, A64, B54)) := by rw [eI72]; exact hD
    refine lv_iconst (v := 0) hx hb dX8_joins_75 (by decide) ?_
    refine hret 76 ls _ _ 0 (I72, A64, B54) dX8_joins_76 rfl ?_ hP hD hS
    try dsimp only
    exact ⟨by rw [if_pos c26], rJ_close hq c26 (by rw [eA64, up_ne (by decide)]) (by rw [eB54, up_ne (by decide)]) (by rw [eI72, up_self, ex71, q3]; exact nI_1 _) (by rw [eB54, up_self, dcl, ex53]) (by rw [eA64, up_self, dcl]),
        fJ.of (fun k hk => by rw [eI72, up_ne hk]) (fun k _ hk => by rw [eA64, up_ne hk]) (fun k _ hk => by rw [eB54, up_ne hk])⟩
end
section
set_option maxHeartbeats 4000000 in
set_option maxRecDepth 100000 in
theorem k_X8_groups (l : Launch) (dC : Nat → ClassId) (dI : Nat → Nat → Nat) (cI cJ cZ cII cJJ : ClassId) (R : Nat → Nat) (I : Nat → Int32) (A : Nat → Nat → Int32) (B : Nat → Nat → Int64) (nv ne : Nat) (fr to wt : Nat → Nat) (g : gM nv ne fr to wt I A) : ctI l (dC, dI) (tyL cI cJ cZ cII cJJ) (MW cI cJ cZ R) yX8_groups wsX8_groups (1, 27) [.ref (R 0)] (I, A, B) (fun r u => r = nI (gc nv (jRun fr to (fl ne) ne)) ∧ rJ nv (jRun fr to (fl ne) ne) u.1 u.2.1 u.2.2 ∧ fJ I A B u) := by
  refine ctI_intro (cc := cX8_groups) (maxL := 3) (by decide) rfl (Nat.le_of_ble_eq_true rfl) ?_
  intro p e s m below meth c ls Aa Q F hK hN hP hD hS hA hl hret
  have hx := F.1
  have hb := F.2.1
  have hown : s.vm.findClass RX8 = some m.cls := F.2.2.2.1
  have hts := F.2.2.2.2
  have hinX8 : ∀ w ∈ wsX80, w ∈ wsX8_groups := by decide +kernel
  have hf7 := hts (.fieldLink RX8 7 "CycleHouseModel" "n" "I") (by decide +kernel)
  have hf61 := hts (.fieldLink RX8 61 "CycleHouseModel" "m" "I") (by decide +kernel)
  have hl : lv_has ls 3 [(0, .ref (R 0))] := hl
  refine lv_aload_n hx hb dX8_groups_0 rfl (lv_at hl 0 rfl) ?_
  refine ct_callv hD hS hA (va_runV (As := []) (rest := []) F ((k_X8_beginGroups l dC dI cI cJ cZ cII cJJ R I A B ) _) (cwV 0 hts gX8_groups_X8_beginGroups rfl rfl rfl (by decide +kernel) ⟨(Nat.le_of_ble_eq_true rfl), (Nat.le_of_ble_eq_true rfl)⟩) (ct_preV 0 8 hK hN hP hD rfl rfl) rfl rfl hl.1 rfl (lv_room (Nat.le_of_ble_eq_true rfl)) dX8_groups_1 ⟨(Nat.le_of_ble_eq_true rfl), (Nat.le_of_ble_eq_true rfl)⟩) (fun u1 H locs w1 hP hD hS => ?_)
  obtain ⟨I1, A1, B1⟩ := u1
  refine lv_aload_n hx hb dX8_groups_4 rfl (lv_at hl 0 rfl) ?_
  refine va_get (D := (dC, dI)) (ci := 8) (v := .int (I1 1)) (C := RX8) (T := TX8) (N := 20) hx hb hts hinX8 hown hK hP 0 rfl rfl 1 (by decide) hf7 (fun _ h9 => h9) rfl dX8_groups_5 ?_
  refine lv_istore_n (lv' := [(1, .int (I1 1)), (0, .ref (R 0))]) hx hb dX8_groups_8 rfl hl (by decide) rfl (fun ls hl => ?_)
  refine lv_iconst (v := 0) hx hb dX8_groups_9 (by decide) ?_
  refine lv_istore_n (lv' := [(2, .int 0), (1, .int (I1 1)), (0, .ref (R 0))]) hx hb dX8_groups_10 rfl hl (by decide) rfl (fun ls hl => ?_)
  have K11 : ∀ (kn : Nat) (i : Nat) (x : Int32) (I_11 : Nat → Int32) (A_11 : Nat → Nat → Int32) (B_11 : Nat → Nat → Int64) (ls : Array Slot) (H : Heap) (locs : List Loc), ne - i < kn → (i ≤ ne ∧ x = nI (gc nv (jRun fr to (fl ne) i)) ∧ rJ nv (jRun fr to (fl ne) i) I_11 A_11 B_11 ∧ fJ I A B (I_11, A_11, B_11)) → va_P (dC, dI) vwCl (MW cI cJ cZ R (I_11, A_11, B_11)) H → va_D Aa (MW cI cJ cZ R (I_11, A_11, B_11)) → va_S Aa s.heap H locs → lv_has ls 3 [(0, .ref (R 0)), (1, .int x), (2, .int (nI i))] → W p l e (ctR (1, 27)) s m #[.ref (R 0)] below meth c H locs 0 0 Q (F0 m 11 ls []) := by
    intro kn
    induction kn with
    | zero => intro i x I_11 A_11 B_11 ls H locs hmu; exact absurd hmu (Nat.not_lt_zero _)
    | succ kn ih11 =>
      intro i x I_11 A_11 B_11 ls H locs mu11 inv11 hP hD hS hl
      obtain ⟨hi, ex, hq, hf⟩ := inv11
      obtain ⟨g1, g2, g3, g4, g5, g6⟩ := g.fj hf
      have hin := fun e (he : e < i) (_ : (fl ne).testBit e = true) => (⟨(g6 e (by omega)).1.2, (g6 e (by omega)).2.1.2⟩ : fr e < nv ∧ to e < nv)
      refine lv_iload_n hx hb dX8_groups_11 rfl (lv_at hl 2 rfl) ?_
      refine lv_aload_n hx hb dX8_groups_12 rfl (lv_at hl 0 rfl) ?_
      refine va_get (D := (dC, dI)) (ci := 8) (v := .int (I_11 2)) (C := RX8) (T := TX8) (N := 20) hx hb hts hinX8 hown hK hP 0 rfl rfl 2 (by decide) hf61 (fun _ h9 => h9) rfl dX8_groups_13 ?_
      refine lv_icmp_ge (tgt := 41) hx hb dX8_groups_16 (by decide) (fun c16 => ?_) (fun c16 => ?_)
      · -- 16 taken
        rw [show I_11 2 = nI ne from g5, nI_leI (by omega) (by omega)] at c16
        have hge : i = ne := by omega
        subst hge
        refine lv_iload_n hx hb dX8_groups_41 rfl (lv_at hl 1 rfl) ?_
        refine hret 42 ls _ _ x (I_11, A_11, B_11) dX8_groups_42 rfl ?_ hP hD hS
        try dsimp only
        exact ⟨ex, hq, hf⟩
      · -- 16 not
        rw [show I_11 2 = nI ne from g5, nI_leI (by omega) (by omega)] at c16
        refine lv_iload_n hx hb dX8_groups_19 rfl (lv_at hl 1 rfl) ?_
        refine lv_aload_n hx hb dX8_groups_20 rfl (lv_at hl 0 rfl) ?_
        refine lv_iload_n hx hb dX8_groups_21 rfl (lv_at hl 2 rfl) ?_
        refine ct_calli hD hS hA (va_runV (As := [.int (nI i)]) (rest := [.int x]) F ((k_X8_joins l dC dI cI cJ cZ cII cJJ R I_11 A_11 B_11 nv ne fr to wt i (jRun fr to (fl ne) i) (g.fj hf) (by omega) hq (by have := jd_lt (fr := fr) (to := to) (s := fl ne) (k := i); omega)) _) (cwV 1 hts gX8_groups_X8_joins rfl rfl rfl (by decide +kernel) ⟨(Nat.le_of_ble_eq_true rfl), (Nat.le_of_ble_eq_true rfl)⟩) (ct_preV 0 8 hK hN hP hD rfl rfl) rfl rfl hl.1 rfl (lv_room (Nat.le_of_ble_eq_true rfl)) dX8_groups_22 ⟨(Nat.le_of_ble_eq_true rfl), (Nat.le_of_ble_eq_true rfl)⟩) (fun r22 u22 H locs w22 hP hD hS => ?_)
        obtain ⟨I22, A22, B22⟩ := u22
        refine lv_if_eq (tgt := 32) hx hb dX8_groups_25 (by decide) (fun c25 => ?_) (fun c25 => ?_)
        · -- 25 taken
          rw [w22.1] at c25
          have c25 : (jRun fr to (fl ne) i).1 (fr i) = (jRun fr to (fl ne) i).1 (to i) := Classical.byContradiction (fun h => by rw [if_neg h] at c25; exact absurd c25 (by decide))
          refine lv_iconst (v := 0) hx hb dX8_groups_32 (by decide) ?_
          refine lv_isub hx hb dX8_groups_33 ?_
          refine lv_topi (fun x33 ex33 => ?_)
          refine lv_istore_n (lv' := [(1, .int x33), (0, .ref (R 0)), (2, .int (nI i))]) hx hb dX8_groups_34 rfl hl (by decide) rfl (fun ls hl => ?_)
          obtain ⟨x35, ex35⟩ : ∃ y : Int32, y = nI i + (1) := ⟨_, rfl⟩
          refine lv_iinc (v := x35) (lv' := [(2, .int x35), (1, .int x33), (0, .ref (R 0))]) hx hb dX8_groups_35 hl (k := 2) rfl (by rw [ex35]; rfl) (by decide) rfl (fun ls hl => ?_)
          have ex35 : x35 = nI (i + 1) := by rw [ex35]; exact nI_1 i
          subst ex35
          refine lv_goto (tgt := 11) hx hb dX8_groups_38 (by decide) ?_
          exact ih11 (i + 1) x33 I22 A22 B22 ls _ _ (by omega) ⟨by omega, by rw [jRun_all (by omega), gc_close c25, ex33, ex]; exact Int32.sub_zero _, by rw [jRun_all (by omega)]; exact w22.2.1, hf.tr w22.2.2⟩ hP hD hS (lv_sub hl [2, 1, 0] rfl)
        · -- 25 not
          rw [w22.1] at c25
          have c25 : (jRun fr to (fl ne) i).1 (fr i) ≠ (jRun fr to (fl ne) i).1 (to i) := fun h => c25 (if_pos h)
          refine lv_iconst (v := 1) hx hb dX8_groups_28 (by decide) ?_
          refine lv_goto (tgt := 33) hx hb dX8_groups_29 (by decide) ?_
          refine lv_isub hx hb dX8_groups_33 ?_
          refine lv_topi (fun x33 ex33 => ?_)
          refine lv_istore_n (lv' := [(1, .int x33), (0, .ref (R 0)), (2, .int (nI i))]) hx hb dX8_groups_34 rfl hl (by decide) rfl (fun ls hl => ?_)
          obtain ⟨x35, ex35⟩ : ∃ y : Int32, y = nI i + (1) := ⟨_, rfl⟩
          refine lv_iinc (v := x35) (lv' := [(2, .int x35), (1, .int x33), (0, .ref (R 0))]) hx hb dX8_groups_35 hl (k := 2) rfl (by rw [ex35]; rfl) (by decide) rfl (fun ls hl => ?_)
          have ex35 : x35 = nI (i + 1) := by rw [ex35]; exact nI_1 i
          subst ex35
          refine lv_goto (tgt := 11) hx hb dX8_groups_38 (by decide) ?_
          exact ih11 (i + 1) x33 I22 A22 B22 ls _ _ (by omega) ⟨by omega, by rw [jRun_all (by omega), ex33, ex, ← gc_join (e := i) (jI_run i hin) (g6 i (by omega)).1.2 (g6 i (by omega)).2.1.2 c25]; exact nI_pred _, by rw [jRun_all (by omega)]; exact w22.2.1, hf.tr w22.2.2⟩ hP hD hS (lv_sub hl [2, 1, 0] rfl)
  exact K11 _ 0 (I1 1) I1 A1 B1 ls _ _ (Nat.lt_succ_self _) ⟨by omega, by rw [show I1 1 = nI nv from (g.fj w1.2).2.2.2.1]; congr 1; exact (ct0_true nv (fun i _ => by show (i == i) = true; simp)).symm, w1.1 nv g.2.1, w1.2⟩ hP hD hS (lv_sub hl [2, 1, 0] rfl)
set_option maxHeartbeats 4000000 in
set_option maxRecDepth 100000 in
theorem k_X8_dimension (l : Launch) (dC : Nat → ClassId) (dI : Nat → Nat → Nat) (cI cJ cZ cII cJJ : ClassId) (R : Nat → Nat) (I : Nat → Int32) (A : Nat → Nat → Int32) (B : Nat → Nat → Int64) (nv ne : Nat) (fr to wt : Nat → Nat) (g : gM nv ne fr to wt I A) : ctI l (dC, dI) (tyL cI cJ cZ cII cJJ) (MW cI cJ cZ R) yX8_dimension wsX8_dimension (2, 50) [.ref (R 0)] (I, A, B) (fun r u => r = nI (jRun fr to (fl ne) ne).2.2.1 ∧ rJ nv (jRun fr to (fl ne) ne) u.1 u.2.1 u.2.2 ∧ fJ I A B u) := by
  refine ctI_intro (cc := cX8_dimension) (maxL := 1) (by decide) rfl (Nat.le_of_ble_eq_true rfl) ?_
  intro p e s m below meth c ls Aa Q F hK hN hP hD hS hA hl hret
  have hx := F.1
  have hb := F.2.1
  have hown : s.vm.findClass RX8 = some m.cls := F.2.2.2.1
  have hts := F.2.2.2.2
  have hinX8 : ∀ w ∈ wsX80, w ∈ wsX8_dimension := by decide +kernel
  have hf61 := hts (.fieldLink RX8 61 "CycleHouseModel" "m" "I") (by decide +kernel)
  have hf7 := hts (.fieldLink RX8 7 "CycleHouseModel" "n" "I") (by decide +kernel)
  have hl : lv_has ls 1 [(0, .ref (R 0))] := hl
  refine lv_aload_n hx hb dX8_dimension_0 rfl (lv_at hl 0 rfl) ?_
  refine va_get (D := (dC, dI)) (ci := 8) (v := .int (I 2)) (C := RX8) (T := TX8) (N := 20) hx hb hts hinX8 hown hK hP 0 rfl rfl 2 (by decide) hf61 (fun _ h9 => h9) rfl dX8_dimension_1 ?_
  refine lv_aload_n hx hb dX8_dimension_4 rfl (lv_at hl 0 rfl) ?_
  refine va_get (D := (dC, dI)) (ci := 8) (v := .int (I 1)) (C := RX8) (T := TX8) (N := 20) hx hb hts hinX8 hown hK hP 0 rfl rfl 1 (by decide) hf7 (fun _ h9 => h9) rfl dX8_dimension_5 ?_
  refine lv_isub hx hb dX8_dimension_8 ?_
  refine lv_topi (fun x8 ex8 => ?_)
  refine lv_aload_n hx hb dX8_dimension_9 rfl (lv_at hl 0 rfl) ?_
  refine ct_calli hD hS hA (va_runV (As := []) (rest := [.int x8]) F ((k_X8_groups l dC dI cI cJ cZ cII cJJ R I A B nv ne fr to wt g) _) (cwV 0 hts gX8_dimension_X8_groups rfl rfl rfl (by decide +kernel) ⟨(Nat.le_of_ble_eq_true rfl), (Nat.le_of_ble_eq_true rfl)⟩) (ct_preV 0 8 hK hN hP hD rfl rfl) rfl rfl hl.1 rfl (lv_room (Nat.le_of_ble_eq_true rfl)) dX8_dimension_10 ⟨(Nat.le_of_ble_eq_true rfl), (Nat.le_of_ble_eq_true rfl)⟩) (fun r10 u10 H locs w10 hP hD hS => ?_)
  obtain ⟨I10, A10, B10⟩ := u10
  refine lv_iadd hx hb dX8_dimension_13 ?_
  refine lv_topi (fun x13 ex13 => ?_)
  refine hret 14 ls _ _ x13 (I10, A10, B10) dX8_dimension_14 rfl ?_ hP hD hS
  try dsimp only
  exact ⟨by rw [ex13, w10.1, ex8, g.2.2.2.1, g.2.2.2.2.1]; exact dim_eq (gc_all (fun e he => ⟨(g.2.2.2.2.2 e he).1.2, (g.2.2.2.2.2 e he).2.1.2⟩)), w10.2.1, w10.2.2⟩
set_option maxHeartbeats 4000000 in
set_option maxRecDepth 100000 in
theorem k_X8_beginsWith (l : Launch) (dC : Nat → ClassId) (dI : Nat → Nat → Nat) (cI cJ cZ cII cJJ : ClassId) (R : Nat → Nat) (I : Nat → Int32) (A : Nat → Nat → Int32) (B : Nat → Nat → Int64) (nv ne : Nat) (fr to wt : Nat → Nat) (z : Nat) (g : gM nv ne fr to wt I A) (hz : z < 2 ^ 62) : ctI l (dC, dI) (tyL cI cJ cZ cII cJJ) (MW cI cJ cZ R) yX8_beginsWith wsX8_beginsWith (1, 27) [.ref (R 0), .long (lN z)] (I, A, B) (fun r u => r = (if (jRun fr to z ne).2.2.1 = 0 then 1 else 0) ∧ rJ nv (jRun fr to z ne) u.1 u.2.1 u.2.2 ∧ fJ I A B u) := by
  refine ctI_intro (cc := cX8_beginsWith) (maxL := 5) (by decide) rfl (Nat.le_of_ble_eq_true rfl) ?_
  intro p e s m below meth c ls Aa Q F hK hN hP hD hS hA hl hret
  have hx := F.1
  have hb := F.2.1
  have hown : s.vm.findClass RX8 = some m.cls := F.2.2.2.1
  have hts := F.2.2.2.2
  have hinX8 : ∀ w ∈ wsX80, w ∈ wsX8_beginsWith := by decide +kernel
  have hf61 := hts (.fieldLink RX8 61 "CycleHouseModel" "m" "I") (by decide +kernel)
  have hl : lv_has ls 5 [(0, .ref (R 0)), (1, .long (lN z))] := hl
  refine lv_aload_n hx hb dX8_beginsWith_0 rfl (lv_at hl 0 rfl) ?_
  refine ct_callv hD hS hA (va_runV (As := []) (rest := []) F ((k_X8_beginGroups l dC dI cI cJ cZ cII cJJ R I A B ) _) (cwV 0 hts gX8_beginsWith_X8_beginGroups rfl rfl rfl (by decide +kernel) ⟨(Nat.le_of_ble_eq_true rfl), (Nat.le_of_ble_eq_true rfl)⟩) (ct_preV 0 8 hK hN hP hD rfl rfl) rfl rfl hl.1 rfl (lv_room (Nat.le_of_ble_eq_true rfl)) dX8_beginsWith_1 ⟨(Nat.le_of_ble_eq_true rfl), (Nat.le_of_ble_eq_true rfl)⟩) (fun u1 H locs w1 hP hD hS => ?_)
  obtain ⟨I1, A1, B1⟩ := u1
  refine lv_iconst (v := 1) hx hb dX8_beginsWith_4 (by decide) ?_
  refine lv_istore_n (lv' := [(3, .int 1), (0, .ref (R 0)), (1, .long (lN z))]) hx hb dX8_beginsWith_5 rfl hl (by decide) rfl (fun ls hl => ?_)
  refine lv_iconst (v := 0) hx hb dX8_beginsWith_6 (by decide) ?_
  refine lv_istore (lv' := [(4, .int 0), (3, .int 1), (0, .ref (R 0)), (1, .long (lN z))]) hx hb dX8_beginsWith_7 hl (by decide) rfl (fun ls hl => ?_)
  have K9 : ∀ (kn : Nat) (i : Nat) (x : Int32) (I_9 : Nat → Int32) (A_9 : Nat → Nat → Int32) (B_9 : Nat → Nat → Int64) (ls : Array Slot) (H : Heap) (locs : List Loc), ne - i < kn → (i ≤ ne ∧ x = (if (jRun fr to z i).2.2.1 = 0 then 1 else 0) ∧ rJ nv (jRun fr to z i) I_9 A_9 B_9 ∧ fJ I A B (I_9, A_9, B_9)) → va_P (dC, dI) vwCl (MW cI cJ cZ R (I_9, A_9, B_9)) H → va_D Aa (MW cI cJ cZ R (I_9, A_9, B_9)) → va_S Aa s.heap H locs → lv_has ls 5 [(0, .ref (R 0)), (1, .long (lN z)), (3, .int x), (4, .int (nI i))] → W p l e (ctR (1, 27)) s m #[.ref (R 0), .long (lN z)] below meth c H locs 0 0 Q (F0 m 9 ls []) := by
    intro kn
    induction kn with
    | zero => intro i x I_9 A_9 B_9 ls H locs hmu; exact absurd hmu (Nat.not_lt_zero _)
    | succ kn ih9 =>
      intro i x I_9 A_9 B_9 ls H locs mu9 inv9 hP hD hS hl
      obtain ⟨hi, ex, hq, hf⟩ := inv9
      obtain ⟨g1, g2, g3, g4, g5, g6⟩ := g.fj hf
      refine lv_iload hx hb dX8_beginsWith_9 (lv_at hl 3 rfl) ?_
      refine lv_aload_n hx hb dX8_beginsWith_11 rfl (lv_at hl 0 rfl) ?_
      refine va_get (D := (dC, dI)) (ci := 8) (v := .int (I_9 2)) (C := RX8) (T := TX8) (N := 20) hx hb hts hinX8 hown hK hP 0 rfl rfl 2 (by decide) hf61 (fun _ h9 => h9) rfl dX8_beginsWith_12 ?_
      refine lv_icmp_ge (tgt := 54) hx hb dX8_beginsWith_15 (by decide) (fun c15 => ?_) (fun c15 => ?_)
      · -- 15 taken
        rw [show I_9 2 = nI ne from g5, nI_leI (by omega) (by omega)] at c15
        have hge : i = ne := by omega
        subst hge
        refine lv_iload_n hx hb dX8_beginsWith_54 rfl (lv_at hl 2 rfl) ?_
        refine hret 55 ls _ _ x (I_9, A_9, B_9) dX8_beginsWith_55 (by rw [ex]; split <;> rfl) ?_ hP hD hS
        try dsimp only
        exact ⟨ex, hq, hf⟩
      · -- 15 not
        rw [show I_9 2 = nI ne from g5, nI_leI (by omega) (by omega)] at c15
        refine lv_lload_n hx hb dX8_beginsWith_18 rfl (lv_at hl 1 rfl) ?_
        refine lv_iload hx hb dX8_beginsWith_19 (lv_at hl 3 rfl) ?_
        refine lv_lshr hx hb dX8_beginsWith_21 rfl ?_
        refine lv_topl (fun x21 ex21 => ?_)
        refine lv_lconst (v := 1) hx hb dX8_beginsWith_22 (by decide) ?_
        refine lv_land hx hb dX8_beginsWith_23 ?_
        refine lv_topl (fun x23 ex23 => ?_)
        refine lv_lconst (v := 1) hx hb dX8_beginsWith_24 (by decide) ?_
        refine W.lcmp hx hb dX8_beginsWith_25 ?_
        refine lv_if_ne (tgt := 48) hx hb dX8_beginsWith_26 (by decide) (fun c26 => ?_) (fun c26 => ?_)
        · -- 26 taken
          rw [lg_cmp_eq] at c26
          rw [ex23, ex21, nm_bit1 hz (by omega)] at c26
          obtain ⟨x48, ex48⟩ : ∃ y : Int32, y = nI i + (1) := ⟨_, rfl⟩
          refine lv_iinc (v := x48) (lv' := [(4, .int x48), (0, .ref (R 0)), (1, .long (lN z)), (3, .int x)]) hx hb dX8_beginsWith_48 hl (k := 3) rfl (by rw [ex48]; rfl) (by decide) rfl (fun ls hl => ?_)
          have ex48 : x48 = nI (i + 1) := by rw [ex48]; exact nI_1 i
          subst ex48
          refine lv_goto (tgt := 9) hx hb dX8_beginsWith_51 (by decide) ?_
          exact ih9 (i + 1) x I_9 A_9 B_9 ls _ _ (by omega) ⟨by omega, by rw [jRun_out c26]; exact ex, by rw [jRun_out c26]; exact hq, hf⟩ hP hD hS (lv_sub hl [1, 2, 3, 0] rfl)
        · -- 26 not
          rw [lg_cmp_eq] at c26
          rw [ex23, ex21, nm_bit1 hz (by omega)] at c26
          refine lv_aload_n hx hb dX8_beginsWith_29 rfl (lv_at hl 0 rfl) ?_
          refine lv_iload hx hb dX8_beginsWith_30 (lv_at hl 3 rfl) ?_
          refine ct_calli hD hS hA (va_runV (As := [.int (nI i)]) (rest := []) F ((k_X8_joins l dC dI cI cJ cZ cII cJJ R I_9 A_9 B_9 nv ne fr to wt i (jRun fr to z i) (g.fj hf) (by omega) hq (by have := jd_lt (fr := fr) (to := to) (s := z) (k := i); omega)) _) (cwV 1 hts gX8_beginsWith_X8_joins rfl rfl rfl (by decide +kernel) ⟨(Nat.le_of_ble_eq_true rfl), (Nat.le_of_ble_eq_true rfl)⟩) (ct_preV 0 8 hK hN hP hD rfl rfl) rfl rfl hl.1 rfl (lv_room (Nat.le_of_ble_eq_true rfl)) dX8_beginsWith_32 ⟨(Nat.le_of_ble_eq_true rfl), (Nat.le_of_ble_eq_true rfl)⟩) (fun r32 u32 H locs w32 hP hD hS => ?_)
          obtain ⟨I32, A32, B32⟩ := u32
          refine lv_if_eq (tgt := 46) hx hb dX8_beginsWith_35 (by decide) (fun c35 => ?_) (fun c35 => ?_)
          · -- 35 taken
            rw [w32.1] at c35
            have c35 : (jRun fr to z i).1 (fr i) = (jRun fr to z i).1 (to i) := Classical.byContradiction (fun h => by rw [if_neg h] at c35; exact absurd c35 (by decide))
            refine lv_iconst (v := 0) hx hb dX8_beginsWith_46 (by decide) ?_
            refine lv_istore_n (lv' := [(3, .int 0), (0, .ref (R 0)), (1, .long (lN z)), (4, .int (nI i))]) hx hb dX8_beginsWith_47 rfl hl (by decide) rfl (fun ls hl => ?_)
            obtain ⟨x48, ex48⟩ : ∃ y : Int32, y = nI i + (1) := ⟨_, rfl⟩
            refine lv_iinc (v := x48) (lv' := [(4, .int x48), (3, .int 0), (0, .ref (R 0)), (1, .long (lN z))]) hx hb dX8_beginsWith_48 hl (k := 3) rfl (by rw [ex48]; rfl) (by decide) rfl (fun ls hl => ?_)
            have ex48 : x48 = nI (i + 1) := by rw [ex48]; exact nI_1 i
            subst ex48
            refine lv_goto (tgt := 9) hx hb dX8_beginsWith_51 (by decide) ?_
            exact ih9 (i + 1) 0 I32 A32 B32 ls _ _ (by omega) ⟨by omega, by rw [jRun_in c26, jd_close c35, if_neg (by omega)], by rw [jRun_in c26]; exact w32.2.1, hf.tr w32.2.2⟩ hP hD hS (lv_sub hl [2, 3, 1, 0] rfl)
          · -- 35 not
            rw [w32.1] at c35
            have c35 : (jRun fr to z i).1 (fr i) ≠ (jRun fr to z i).1 (to i) := fun h => c35 (if_pos h)
            refine lv_iload_n hx hb dX8_beginsWith_38 rfl (lv_at hl 2 rfl) ?_
            refine lv_if_eq (tgt := 46) hx hb dX8_beginsWith_39 (by decide) (fun c39 => ?_) (fun c39 => ?_)
            · -- 39 taken
              refine lv_iconst (v := 0) hx hb dX8_beginsWith_46 (by decide) ?_
              refine lv_istore_n (lv' := [(3, .int 0), (0, .ref (R 0)), (1, .long (lN z)), (4, .int (nI i))]) hx hb dX8_beginsWith_47 rfl hl (by decide) rfl (fun ls hl => ?_)
              obtain ⟨x48, ex48⟩ : ∃ y : Int32, y = nI i + (1) := ⟨_, rfl⟩
              refine lv_iinc (v := x48) (lv' := [(4, .int x48), (3, .int 0), (0, .ref (R 0)), (1, .long (lN z))]) hx hb dX8_beginsWith_48 hl (k := 3) rfl (by rw [ex48]; rfl) (by decide) rfl (fun ls hl => ?_)
              have ex48 : x48 = nI (i + 1) := by rw [ex48]; exact nI_1 i
              subst ex48
              refine lv_goto (tgt := 9) hx hb dX8_beginsWith_51 (by decide) ?_
              exact ih9 (i + 1) 0 I32 A32 B32 ls _ _ (by omega) ⟨by omega, by rw [jRun_in c26, jd_join c35]; rw [ex] at c39; split at c39 <;> simp_all, by rw [jRun_in c26]; exact w32.2.1, hf.tr w32.2.2⟩ hP hD hS (lv_sub hl [2, 3, 1, 0] rfl)
            · -- 39 not
              refine lv_iconst (v := 1) hx hb dX8_beginsWith_42 (by decide) ?_
              refine lv_goto (tgt := 47) hx hb dX8_beginsWith_43 (by decide) ?_
              refine lv_istore_n (lv' := [(3, .int 1), (0, .ref (R 0)), (1, .long (lN z)), (4, .int (nI i))]) hx hb dX8_beginsWith_47 rfl hl (by decide) rfl (fun ls hl => ?_)
              obtain ⟨x48, ex48⟩ : ∃ y : Int32, y = nI i + (1) := ⟨_, rfl⟩
              refine lv_iinc (v := x48) (lv' := [(4, .int x48), (3, .int 1), (0, .ref (R 0)), (1, .long (lN z))]) hx hb dX8_beginsWith_48 hl (k := 3) rfl (by rw [ex48]; rfl) (by decide) rfl (fun ls hl => ?_)
              have ex48 : x48 = nI (i + 1) := by rw [ex48]; exact nI_1 i
              subst ex48
              refine lv_goto (tgt := 9) hx hb dX8_beginsWith_51 (by decide) ?_
              exact ih9 (i + 1) 1 I32 A32 B32 ls _ _ (by omega) ⟨by omega, by rw [jRun_in c26, jd_join c35]; rw [ex] at c39; split at c39 <;> simp_all, by rw [jRun_in c26]; exact w32.2.1, hf.tr w32.2.2⟩ hP hD hS (lv_sub hl [2, 3, 1, 0] rfl)
  exact K9 _ 0 1 I1 A1 B1 ls _ _ (Nat.lt_succ_self _) ⟨by omega, rfl, w1.1 nv g.2.1, w1.2⟩ hP hD hS (lv_sub hl [2, 3, 1, 0] rfl)
end
section
set_option maxHeartbeats 4000000 in
set_option maxRecDepth 100000 in
theorem k_X8_thrown (l : Launch) (dC : Nat → ClassId) (dI : Nat → Nat → Nat) (cI cJ cZ cII cJJ : ClassId) (R : Nat → Nat) (I : Nat → Int32) (A : Nat → Nat → Int32) (B : Nat → Nat → Int64)   : ctI l (dC, dI) (tyL cI cJ cZ cII cJJ) (MW cI cJ cZ R) yX8_thrown wsX8_thrown (0, 0) [.ref (R 0)] (I, A, B) (fun r u => r = I 0 ∧ u = (I, A, B)) := by
  refine ctI_intro (cc := cX8_thrown) (maxL := 1) (by decide) rfl (Nat.le_of_ble_eq_true rfl) ?_
  intro p e s m below meth c ls Aa Q F hK hN hP hD hS hA hl hret
  have hx := F.1
  have hb := F.2.1
  have hown : s.vm.findClass RX8 = some m.cls := F.2.2.2.1
  have hts := F.2.2.2.2
  have hinX8 : ∀ w ∈ wsX80, w ∈ wsX8_thrown := by decide +kernel
  have hf58 := hts (.fieldLink RX8 58 "CycleHouseModel" "thrown" "I") (by decide +kernel)
  have hl : lv_has ls 1 [(0, .ref (R 0))] := hl
  refine lv_aload_n hx hb dX8_thrown_0 rfl (lv_at hl 0 rfl) ?_
  refine va_get (D := (dC, dI)) (ci := 8) (v := .int (I 0)) (C := RX8) (T := TX8) (N := 20) hx hb hts hinX8 hown hK hP 0 rfl rfl 0 (by decide) hf58 (fun _ h9 => h9) rfl dX8_thrown_1 ?_
  refine hret 4 ls _ _ (I 0) (I, A, B) dX8_thrown_4 rfl ?_ hP hD hS
  try dsimp only
  exact ⟨rfl, rfl⟩
set_option maxHeartbeats 4000000 in
set_option maxRecDepth 100000 in
theorem k_X8_reset (l : Launch) (dC : Nat → ClassId) (dI : Nat → Nat → Nat) (cI cJ cZ cII cJJ : ClassId) (R : Nat → Nat) (I : Nat → Int32) (A : Nat → Nat → Int32) (B : Nat → Nat → Int64) (v : Int32)  : ctI l (dC, dI) (tyL cI cJ cZ cII cJJ) (MW cI cJ cZ R) yX8_reset wsX8_reset (1, 22) [.ref (R 0), .int v] (I, A, B) (fun r u => (¬ (v < 1 ∨ 16 < v) → r = I 2 ∧ u = (va_up (va_up (va_up I 0 0) 1 v) 2 0, A, B)) ∧ ((v < 1 ∨ 16 < v) → u = (va_up I 0 1, A, B))) := by
  refine ctI_intro (cc := cX8_reset) (maxL := 3) (by decide) rfl (Nat.le_of_ble_eq_true rfl) ?_
  intro p e s m below meth c ls Aa Q F hK hN hP hD hS hA hl hret
  have hx := F.1
  have hb := F.2.1
  have hown : s.vm.findClass RX8 = some m.cls := F.2.2.2.1
  have hts := F.2.2.2.2
  have hinX8 : ∀ w ∈ wsX80, w ∈ wsX8_reset := by decide +kernel
  have hf61 := hts (.fieldLink RX8 61 "CycleHouseModel" "m" "I") (by decide +kernel)
  have hf7 := hts (.fieldLink RX8 7 "CycleHouseModel" "n" "I") (by decide +kernel)
  have hl : lv_has ls 3 [(0, .ref (R 0)), (1, .int v)] := hl
  refine lv_aload_n hx hb dX8_reset_0 rfl (lv_at hl 0 rfl) ?_
  have K17 : ∀ (o : Int32) (ls : Array Slot) (H : Heap) (locs : List Loc), (o = (if v < 1 ∨ 16 < v then 1 else 0)) → va_P (dC, dI) vwCl (MW cI cJ cZ R (I, A, B)) H → va_D Aa (MW cI cJ cZ R (I, A, B)) → va_S Aa s.heap H locs → lv_has ls 3 [(0, .ref (R 0)), (1, .int v)] → W p l e (ctR (1, 22)) s m #[.ref (R 0), .int v] below meth c H locs 0 0 Q (F0 m 17 ls [.int o, .ref (R 0)]) := by
    intro o ls H locs inv17 hP hD hS hl
    refine lv_iconst (v := 0) hx hb dX8_reset_17 (by decide) ?_
    refine ct_calli hD hS hA (va_runV (As := [.int o, .int 0]) (rest := []) F ((k_X8_throwing l dC dI cI cJ cZ cII cJJ R I A B o 0) _) (cwV 2 hts gX8_reset_X8_throwing rfl rfl rfl (by decide +kernel) ⟨(Nat.le_of_ble_eq_true rfl), (Nat.le_of_ble_eq_true rfl)⟩) (ct_preV 0 8 hK hN hP hD rfl rfl) rfl rfl hl.1 rfl (lv_room (Nat.le_of_ble_eq_true rfl)) dX8_reset_18 ⟨(Nat.le_of_ble_eq_true rfl), (Nat.le_of_ble_eq_true rfl)⟩) (fun r18 u18 H locs w18 hP hD hS => ?_)
    obtain ⟨w18, hu18⟩ := w18
    obtain ⟨I18, A18, B18⟩ := u18
    have eI18 := congrArg (fun z => z.1) hu18
    dsimp only at eI18
    have eA18 : A = A18 := (congrArg (fun z => z.2.1) hu18).symm
    subst eA18
    have eB18 : B = B18 := (congrArg (fun z => z.2.2) hu18).symm
    subst eB18
    clear hu18
    refine lv_if_eq (tgt := 26) hx hb dX8_reset_21 (by decide) (fun c21 => ?_) (fun c21 => ?_)
    · -- 21 taken
      rw [w18, inv17] at c21
      have hv : ¬ (v < 1 ∨ 16 < v) := fun h => by rw [if_pos h] at c21; exact absurd c21 (by decide)
      refine lv_aload_n hx hb dX8_reset_26 rfl (lv_at hl 0 rfl) ?_
      refine va_get (D := (dC, dI)) (ci := 8) (v := .int (I18 2)) (C := RX8) (T := TX8) (N := 20) hx hb hts hinX8 hown hK hP 0 rfl rfl 2 (by decide) hf61 (fun _ h9 => h9) rfl dX8_reset_27 ?_
      refine lv_istore_n (lv' := [(2, .int (I18 2)), (0, .ref (R 0)), (1, .int v)]) hx hb dX8_reset_30 rfl hl (by decide) rfl (fun ls hl => ?_)
      refine lv_aload_n hx hb dX8_reset_31 rfl (lv_at hl 1 rfl) ?_
      refine lv_iload_n hx hb dX8_reset_32 rfl (lv_at hl 2 rfl) ?_
      refine va_put (D := (dC, dI)) (ci := 8) (v := .int v) (ty := .int) (C := RX8) (T := TX8) (N := 20) hx hb hts hinX8 tyX8 tyX8_ok nmX8 hown hK hP hD hS 0 rfl rfl 1 (by decide) hf7 (fun _ h9 => h9) rfl (by decide +kernel) rfl rfl (Nat.le_of_ble_eq_true rfl) dX8_reset_33 (fun H locs hP hD hS => ?_)
      obtain ⟨I33, eI33⟩ : ∃ z : Nat → Int32, z = va_up I18 1 v := ⟨_, rfl⟩
      have hP : va_P (dC, dI) vwCl (MW cI cJ cZ R (I33, A, B)) H := by rw [eI33]; exact hP
      have hD : va_D Aa (MW cI cJ cZ R (I33, A, B)) := by rw [eI33]; exact hD
      refine lv_aload_n hx hb dX8_reset_36 rfl (lv_at hl 1 rfl) ?_
      refine lv_iconst (v := 0) hx hb dX8_reset_37 (by decide) ?_
      refine va_put (D := (dC, dI)) (ci := 8) (v := .int 0) (ty := .int) (C := RX8) (T := TX8) (N := 20) hx hb hts hinX8 tyX8 tyX8_ok nmX8 hown hK hP hD hS 0 rfl rfl 2 (by decide) hf61 (fun _ h9 => h9) rfl (by decide +kernel) rfl rfl (Nat.le_of_ble_eq_true rfl) dX8_reset_38 (fun H locs hP hD hS => ?_)
      obtain ⟨I38, eI38⟩ : ∃ z : Nat → Int32, z = va_up I33 2 0 := ⟨_, rfl⟩
      have hP : va_P (dC, dI) vwCl (MW cI cJ cZ R (I38, A, B)) H := by rw [eI38]; exact hP
      have hD : va_D Aa (MW cI cJ cZ R (I38, A, B)) := by rw [eI38]; exact hD
      refine lv_iload_n hx hb dX8_reset_41 rfl (lv_at hl 0 rfl) ?_
      refine hret 42 ls _ _ (I18 2) (I38, A, B) dX8_reset_42 rfl ?_ hP hD hS
      try dsimp only
      exact ⟨fun h => ⟨by rw [eI18, up_ne (by decide)], by rw [eI38, eI33, eI18, inv17, if_neg h]; rfl⟩, fun h => absurd h hv⟩
    · -- 21 not
      rw [w18, inv17] at c21
      have hv : v < 1 ∨ 16 < v := Classical.byContradiction (fun h => by rw [if_neg h] at c21; exact absurd rfl c21)
      refine lv_iconst (v := 0) hx hb dX8_reset_24 (by decide) ?_
      refine hret 25 ls _ _ 0 (I18, A, B) dX8_reset_25 rfl ?_ hP hD hS
      try dsimp only
      exact ⟨fun h => absurd hv h, fun _ => by rw [eI18, inv17, if_pos hv]; rfl⟩
  refine lv_iload_n hx hb dX8_reset_1 rfl (lv_at hl 1 rfl) ?_
  refine lv_iconst (v := 1) hx hb dX8_reset_2 (by decide) ?_
  refine lv_icmp_lt (tgt := 12) hx hb dX8_reset_3 (by decide) (fun c3 => ?_) (fun c3 => ?_)
  · -- 3 taken
    refine lv_iconst (v := 1) hx hb dX8_reset_12 (by decide) ?_
    refine lv_goto (tgt := 17) hx hb dX8_reset_13 (by decide) ?_
    exact K17 1 ls _ _  (by rw [if_pos (Or.inl c3)]) hP hD hS (lv_sub hl [0, 1] rfl)
  · -- 3 not
    refine lv_iload_n hx hb dX8_reset_6 rfl (lv_at hl 1 rfl) ?_
    refine lv_bipush (v := 16) hx hb dX8_reset_7 (by decide) ?_
    refine lv_icmp_le (tgt := 16) hx hb dX8_reset_9 (by decide) (fun c9 => ?_) (fun c9 => ?_)
    · -- 9 taken
      refine lv_iconst (v := 0) hx hb dX8_reset_16 (by decide) ?_
      exact K17 0 ls _ _  (by rw [if_neg (fun h => h.elim c3 (Int32.not_lt.mpr c9))]) hP hD hS (lv_sub hl [0, 1] rfl)
    · -- 9 not
      refine lv_iconst (v := 1) hx hb dX8_reset_12 (by decide) ?_
      refine lv_goto (tgt := 17) hx hb dX8_reset_13 (by decide) ?_
      exact K17 1 ls _ _  (by rw [if_pos (Or.inr (Int32.not_le.mp c9))]) hP hD hS (lv_sub hl [0, 1] rfl)
set_option maxHeartbeats 4000000 in
set_option maxRecDepth 100000 in
theorem k_X8_drop (l : Launch) (dC : Nat → ClassId) (dI : Nat → Nat → Nat) (cI cJ cZ cII cJJ : ClassId) (R : Nat → Nat) (I : Nat → Int32) (A : Nat → Nat → Int32) (B : Nat → Nat → Int64)   : ctI l (dC, dI) (tyL cI cJ cZ cII cJJ) (MW cI cJ cZ R) yX8_drop wsX8_drop (1, 22) [.ref (R 0)] (I, A, B) (fun r u => (I 2 ≠ 0 → r = I 2 - 1 ∧ u = (va_up (va_up I 0 0) 2 (I 2 - 1), A, B)) ∧ (I 2 = 0 → u = (va_up I 0 1, A, B))) := by
  refine ctI_intro (cc := cX8_drop) (maxL := 1) (by decide) rfl (Nat.le_of_ble_eq_true rfl) ?_
  intro p e s m below meth c ls Aa Q F hK hN hP hD hS hA hl hret
  have hx := F.1
  have hb := F.2.1
  have hown : s.vm.findClass RX8 = some m.cls := F.2.2.2.1
  have hts := F.2.2.2.2
  have hinX8 : ∀ w ∈ wsX80, w ∈ wsX8_drop := by decide +kernel
  have hf61 := hts (.fieldLink RX8 61 "CycleHouseModel" "m" "I") (by decide +kernel)
  have hl : lv_has ls 1 [(0, .ref (R 0))] := hl
  refine lv_aload_n hx hb dX8_drop_0 rfl (lv_at hl 0 rfl) ?_
  have K13 : ∀ (o : Int32) (ls : Array Slot) (H : Heap) (locs : List Loc), (o = (if I 2 = 0 then 1 else 0)) → va_P (dC, dI) vwCl (MW cI cJ cZ R (I, A, B)) H → va_D Aa (MW cI cJ cZ R (I, A, B)) → va_S Aa s.heap H locs → lv_has ls 1 [(0, .ref (R 0))] → W p l e (ctR (1, 22)) s m #[.ref (R 0)] below meth c H locs 0 0 Q (F0 m 13 ls [.int o, .ref (R 0)]) := by
    intro o ls H locs inv13 hP hD hS hl
    refine lv_iconst (v := 0) hx hb dX8_drop_13 (by decide) ?_
    refine ct_calli hD hS hA (va_runV (As := [.int o, .int 0]) (rest := []) F ((k_X8_throwing l dC dI cI cJ cZ cII cJJ R I A B o 0) _) (cwV 2 hts gX8_drop_X8_throwing rfl rfl rfl (by decide +kernel) ⟨(Nat.le_of_ble_eq_true rfl), (Nat.le_of_ble_eq_true rfl)⟩) (ct_preV 0 8 hK hN hP hD rfl rfl) rfl rfl hl.1 rfl (lv_room (Nat.le_of_ble_eq_true rfl)) dX8_drop_14 ⟨(Nat.le_of_ble_eq_true rfl), (Nat.le_of_ble_eq_true rfl)⟩) (fun r14 u14 H locs w14 hP hD hS => ?_)
    obtain ⟨w14, hu14⟩ := w14
    obtain ⟨I14, A14, B14⟩ := u14
    have eI14 := congrArg (fun z => z.1) hu14
    dsimp only at eI14
    have eA14 : A = A14 := (congrArg (fun z => z.2.1) hu14).symm
    subst eA14
    have eB14 : B = B14 := (congrArg (fun z => z.2.2) hu14).symm
    subst eB14
    clear hu14
    refine lv_if_eq (tgt := 22) hx hb dX8_drop_17 (by decide) (fun c17 => ?_) (fun c17 => ?_)
    · -- 17 taken
      rw [w14, inv13] at c17
      have hv : I 2 ≠ 0 := fun h => by rw [if_pos h] at c17; exact absurd c17 (by decide)
      refine lv_aload_n hx hb dX8_drop_22 rfl (lv_at hl 0 rfl) ?_
      refine lv_dup hx hb dX8_drop_23 rfl ?_
      refine va_get (D := (dC, dI)) (ci := 8) (v := .int (I14 2)) (C := RX8) (T := TX8) (N := 20) hx hb hts hinX8 hown hK hP 0 rfl rfl 2 (by decide) hf61 (fun _ h9 => h9) rfl dX8_drop_24 ?_
      refine lv_iconst (v := 1) hx hb dX8_drop_27 (by decide) ?_
      refine lv_isub hx hb dX8_drop_28 ?_
      refine lv_topi (fun x28 ex28 => ?_)
      refine va_put (D := (dC, dI)) (ci := 8) (v := .int x28) (ty := .int) (C := RX8) (T := TX8) (N := 20) hx hb hts hinX8 tyX8 tyX8_ok nmX8 hown hK hP hD hS 0 rfl rfl 2 (by decide) hf61 (fun _ h9 => h9) rfl (by decide +kernel) rfl rfl (Nat.le_of_ble_eq_true rfl) dX8_drop_29 (fun H locs hP hD hS => ?_)
      obtain ⟨I29, eI29⟩ : ∃ z : Nat → Int32, z = va_up I14 2 x28 := ⟨_, rfl⟩
      have hP : va_P (dC, dI) vwCl (MW cI cJ cZ R (I29, A, B)) H := by rw [eI29]; exact hP
      have hD : va_D Aa (MW cI cJ cZ R (I29, A, B)) := by rw [eI29]; exact hD
      refine lv_aload_n hx hb dX8_drop_32 rfl (lv_at hl 0 rfl) ?_
      refine va_get (D := (dC, dI)) (ci := 8) (v := .int (I29 2)) (C := RX8) (T := TX8) (N := 20) hx hb hts hinX8 hown hK hP 0 rfl rfl 2 (by decide) hf61 (fun _ h9 => h9) rfl dX8_drop_33 ?_
      refine hret 36 ls _ _ (I29 2) (I29, A, B) dX8_drop_36 rfl ?_ hP hD hS
      try dsimp only
      exact ⟨fun h => ⟨by rw [eI29, up_self, ex28, eI14, up_ne (by decide)], by rw [eI29, ex28, eI14, up_ne (by decide), inv13, if_neg h]; rfl⟩, fun h => absurd h hv⟩
    · -- 17 not
      rw [w14, inv13] at c17
      have hv : I 2 = 0 := Classical.byContradiction (fun h => by rw [if_neg h] at c17; exact absurd rfl c17)
      refine lv_iconst (v := 0) hx hb dX8_drop_20 (by decide) ?_
      refine hret 21 ls _ _ 0 (I14, A, B) dX8_drop_21 rfl ?_ hP hD hS
      try dsimp only
      exact ⟨fun h => absurd hv h, fun _ => by rw [eI14, inv13, if_pos hv]; rfl⟩
  refine lv_aload_n hx hb dX8_drop_1 rfl (lv_at hl 0 rfl) ?_
  refine va_get (D := (dC, dI)) (ci := 8) (v := .int (I 2)) (C := RX8) (T := TX8) (N := 20) hx hb hts hinX8 hown hK hP 0 rfl rfl 2 (by decide) hf61 (fun _ h9 => h9) rfl dX8_drop_2 ?_
  refine lv_if_ne (tgt := 12) hx hb dX8_drop_5 (by decide) (fun c5 => ?_) (fun c5 => ?_)
  · -- 5 taken
    refine lv_iconst (v := 0) hx hb dX8_drop_12 (by decide) ?_
    exact K13 0 ls _ _  (by rw [if_neg c5]) hP hD hS (lv_sub hl [0] rfl)
  · -- 5 not
    refine lv_iconst (v := 1) hx hb dX8_drop_8 (by decide) ?_
    refine lv_goto (tgt := 13) hx hb dX8_drop_9 (by decide) ?_
    exact K13 1 ls _ _  (by rw [if_pos c5]) hP hD hS (lv_sub hl [0] rfl)
end
section
set_option maxHeartbeats 4000000 in
set_option maxRecDepth 100000 in
theorem k_X8_edge (l : Launch) (dC : Nat → ClassId) (dI : Nat → Nat → Nat) (cI cJ cZ cII cJJ : ClassId) (R : Nat → Nat) (I : Nat → Int32) (A : Nat → Nat → Int32) (B : Nat → Nat → Int64) (nv ne : Nat) (fr to wt : Nat → Nat) (a b w : Int32) (g : gM nv ne fr to wt I A) : ctI l (dC, dI) (tyL cI cJ cZ cII cJJ) (MW cI cJ cZ R) yX8_edge wsX8_edge (3, 80) [.ref (R 0), .int a, .int b, .int w] (I, A, B) (fun r u => (bE nv a b w → u.1 0 = 1 ∧ fQ I A B u) ∧ (¬ bE nv a b w → fE ne (jRun fr to (fl ne) ne) a b → u.1 0 = 2 ∧ fQ I A B u) ∧ (¬ bE nv a b w → ¬ fE ne (jRun fr to (fl ne) ne) a b → u.1 0 = 0 ∧ r = nI ne ∧ nE ne a b w I A B u)) := by
  refine ctI_intro (cc := cX8_edge) (maxL := 7) (by decide) rfl (Nat.le_of_ble_eq_true rfl) ?_
  intro p e s m below meth c ls Aa Q F hK hN hP hD hS hA hl hret
  have hx := F.1
  have hb := F.2.1
  have hown : s.vm.findClass RX8 = some m.cls := F.2.2.2.1
  have hts := F.2.2.2.2
  have hinX8 : ∀ w ∈ wsX80, w ∈ wsX8_edge := by decide +kernel
  have hf61 := hts (.fieldLink RX8 61 "CycleHouseModel" "m" "I") (by decide +kernel)
  have hf27 := hts (.fieldLink RX8 27 "CycleHouseModel" "group" "[I") (by decide +kernel)
  have hf13 := hts (.fieldLink RX8 13 "CycleHouseModel" "from" "[I") (by decide +kernel)
  have hf17 := hts (.fieldLink RX8 17 "CycleHouseModel" "to" "[I") (by decide +kernel)
  have hf20 := hts (.fieldLink RX8 20 "CycleHouseModel" "weight" "[I") (by decide +kernel)
  have hl : lv_has ls 7 [(0, .ref (R 0)), (1, .int a), (2, .int b), (3, .int w)] := hl
  have K31 : ∀ (o : Int32) (ls : Array Slot) (H : Heap) (locs : List Loc), ((o = 1 ∧ bE nv a b w) ∨ (o = 0 ∧ ¬ bE nv a b w)) → va_P (dC, dI) vwCl (MW cI cJ cZ R (I, A, B)) H → va_D Aa (MW cI cJ cZ R (I, A, B)) → va_S Aa s.heap H locs → lv_has ls 7 [(0, .ref (R 0)), (1, .int a), (2, .int b), (3, .int w)] → W p l e (ctR (3, 80)) s m #[.ref (R 0), .int a, .int b, .int w] below meth c H locs 0 0 Q (F0 m 31 ls [.int o]) := by
    intro o ls H locs inv31 hP hD hS hl
    refine lv_istore (lv' := [(4, .int o), (0, .ref (R 0)), (1, .int a), (2, .int b), (3, .int w)]) hx hb dX8_edge_31 hl (by decide) rfl (fun ls hl => ?_)
    have K85 : ∀ (f : Int32) (I_85 : Nat → Int32) (A_85 : Nat → Nat → Int32) (B_85 : Nat → Nat → Int64) (ls : Array Slot) (H : Heap) (locs : List Loc), (fJ I A B (I_85, A_85, B_85) ∧ ((o = 1 ∧ f = 0 ∧ bE nv a b w) ∨ (o = 0 ∧ ¬ bE nv a b w ∧ f = 1 ∧ fE ne (jRun fr to (fl ne) ne) a b) ∨ (o = 0 ∧ ¬ bE nv a b w ∧ f = 0 ∧ ¬ fE ne (jRun fr to (fl ne) ne) a b))) → va_P (dC, dI) vwCl (MW cI cJ cZ R (I_85, A_85, B_85)) H → va_D Aa (MW cI cJ cZ R (I_85, A_85, B_85)) → va_S Aa s.heap H locs → lv_has ls 7 [(0, .ref (R 0)), (1, .int a), (2, .int b), (3, .int w), (4, .int o), (5, .int f)] → W p l e (ctR (3, 80)) s m #[.ref (R 0), .int a, .int b, .int w] below meth c H locs 0 0 Q (F0 m 85 ls []) := by
      intro f I_85 A_85 B_85 ls H locs inv85 hP hD hS hl
      obtain ⟨hf, h3⟩ := inv85
      refine lv_aload_n hx hb dX8_edge_85 rfl (lv_at hl 0 rfl) ?_
      refine lv_iload hx hb dX8_edge_86 (lv_at hl 4 rfl) ?_
      refine lv_iload hx hb dX8_edge_88 (lv_at hl 5 rfl) ?_
      refine ct_calli hD hS hA (va_runV (As := [.int o, .int f]) (rest := []) F ((k_X8_throwing l dC dI cI cJ cZ cII cJJ R I_85 A_85 B_85 o f) _) (cwV 2 hts gX8_edge_X8_throwing rfl rfl rfl (by decide +kernel) ⟨(Nat.le_of_ble_eq_true rfl), (Nat.le_of_ble_eq_true rfl)⟩) (ct_preV 0 8 hK hN hP hD rfl rfl) rfl rfl hl.1 rfl (lv_room (Nat.le_of_ble_eq_true rfl)) dX8_edge_90 ⟨(Nat.le_of_ble_eq_true rfl), (Nat.le_of_ble_eq_true rfl)⟩) (fun r90 u90 H locs w90 hP hD hS => ?_)
      obtain ⟨w90, hu90⟩ := w90
      obtain ⟨I90, A90, B90⟩ := u90
      have eI90 := congrArg (fun z => z.1) hu90
      dsimp only at eI90
      have eA90 : A_85 = A90 := (congrArg (fun z => z.2.1) hu90).symm
      subst eA90
      have eB90 : B_85 = B90 := (congrArg (fun z => z.2.2) hu90).symm
      subst eB90
      clear hu90
      have gg := g.fj hf
      have fQ0 : ∀ v, I90 = va_up I_85 0 v → fQ I A B (I90, A_85, B_85) := fun v h => fQ.of (fun k h0 h1 => by rw [h, up_ne h0]; exact hf.1 k h1) hf.2.1 hf.2.2
      refine lv_if_eq (tgt := 98) hx hb dX8_edge_93 (by decide) (fun c93 => ?_) (fun c93 => ?_)
      · -- 93 taken
        rw [w90] at c93
        have h4 : o = 0 ∧ ¬ bE nv a b w ∧ f = 0 ∧ ¬ fE ne (jRun fr to (fl ne) ne) a b := by rcases h3 with h | h | h; rw [h.1, h.2.1] at c93; exact absurd c93 (by decide); rw [h.1, h.2.2.1] at c93; exact absurd c93 (by decide); exact h
        have h2 : I90 2 = nI ne := by rw [eI90, up_ne (by decide)]; exact gg.2.2.2.2.1
        have g3 := g.2.2.1
        have hne : ne < 40 := Nat.lt_of_le_of_ne g3 (fun h => h4.2.2.2 (Or.inl h))
        have hcl : (I90 2).toNatClampNeg = ne := by rw [h2]; exact nI_clamp (by omega)
        have hin : vp_in (I90 2) 40 := by rw [h2]; exact vp_in_nI hne (by omega)
        refine lv_aload_n hx hb dX8_edge_98 rfl (lv_at hl 0 rfl) ?_
        refine va_get (D := (dC, dI)) (ci := 8) (v := .ref (R 3)) (C := RX8) (T := TX8) (N := 20) hx hb hts hinX8 hown hK hP 0 rfl rfl 3 (by decide) hf13 (fun _ h9 => h9) rfl dX8_edge_99 ?_
        refine lv_aload_n hx hb dX8_edge_102 rfl (lv_at hl 0 rfl) ?_
        refine va_get (D := (dC, dI)) (ci := 8) (v := .int (I90 2)) (C := RX8) (T := TX8) (N := 20) hx hb hts hinX8 hown hK hP 0 rfl rfl 2 (by decide) hf61 (fun _ h9 => h9) rfl dX8_edge_103 ?_
        refine lv_iload_n hx hb dX8_edge_106 rfl (lv_at hl 1 rfl) ?_
        have h107 : vp_in (I90 2) 40 := hin
        refine va_iast hx hb hK hP hD hS 1 0 rfl rfl h107 dX8_edge_107 (fun H locs hP hD hS => ?_)
        obtain ⟨A107, eA107⟩ : ∃ z : Nat → Nat → Int32, z = va_up A_85 3 (upd (A_85 3) (I90 2).toNatClampNeg a) := ⟨_, rfl⟩
        have hP : va_P (dC, dI) vwCl (MW cI cJ cZ R (I90, A107, B_85)) H := by rw [eA107]; exact hP
        have hD : va_D Aa (MW cI cJ cZ R (I90, A107, B_85)) := by rw [eA107]; exact hD
        refine lv_aload_n hx hb dX8_edge_108 rfl (lv_at hl 0 rfl) ?_
        refine va_get (D := (dC, dI)) (ci := 8) (v := .ref (R 4)) (C := RX8) (T := TX8) (N := 20) hx hb hts hinX8 hown hK hP 0 rfl rfl 4 (by decide) hf17 (fun _ h9 => h9) rfl dX8_edge_109 ?_
        refine lv_aload_n hx hb dX8_edge_112 rfl (lv_at hl 0 rfl) ?_
        refine va_get (D := (dC, dI)) (ci := 8) (v := .int (I90 2)) (C := RX8) (T := TX8) (N := 20) hx hb hts hinX8 hown hK hP 0 rfl rfl 2 (by decide) hf61 (fun _ h9 => h9) rfl dX8_edge_113 ?_
        refine lv_iload_n hx hb dX8_edge_116 rfl (lv_at hl 2 rfl) ?_
        have h117 : vp_in (I90 2) 40 := hin
        refine va_iast hx hb hK hP hD hS 2 0 rfl rfl h117 dX8_edge_117 (fun H locs hP hD hS => ?_)
        obtain ⟨A117, eA117⟩ : ∃ z : Nat → Nat → Int32, z = va_up A107 4 (upd (A107 4) (I90 2).toNatClampNeg b) := ⟨_, rfl⟩
        have hP : va_P (dC, dI) vwCl (MW cI cJ cZ R (I90, A117, B_85)) H := by rw [eA117]; exact hP
        have hD : va_D Aa (MW cI cJ cZ R (I90, A117, B_85)) := by rw [eA117]; exact hD
        refine lv_aload_n hx hb dX8_edge_118 rfl (lv_at hl 0 rfl) ?_
        refine va_get (D := (dC, dI)) (ci := 8) (v := .ref (R 5)) (C := RX8) (T := TX8) (N := 20) hx hb hts hinX8 hown hK hP 0 rfl rfl 5 (by decide) hf20 (fun _ h9 => h9) rfl dX8_edge_119 ?_
        refine lv_aload_n hx hb dX8_edge_122 rfl (lv_at hl 0 rfl) ?_
        refine va_get (D := (dC, dI)) (ci := 8) (v := .int (I90 2)) (C := RX8) (T := TX8) (N := 20) hx hb hts hinX8 hown hK hP 0 rfl rfl 2 (by decide) hf61 (fun _ h9 => h9) rfl dX8_edge_123 ?_
        refine lv_iload_n hx hb dX8_edge_126 rfl (lv_at hl 3 rfl) ?_
        have h127 : vp_in (I90 2) 40 := hin
        refine va_iast hx hb hK hP hD hS 3 0 rfl rfl h127 dX8_edge_127 (fun H locs hP hD hS => ?_)
        obtain ⟨A127, eA127⟩ : ∃ z : Nat → Nat → Int32, z = va_up A117 5 (upd (A117 5) (I90 2).toNatClampNeg w) := ⟨_, rfl⟩
        have hP : va_P (dC, dI) vwCl (MW cI cJ cZ R (I90, A127, B_85)) H := by rw [eA127]; exact hP
        have hD : va_D Aa (MW cI cJ cZ R (I90, A127, B_85)) := by rw [eA127]; exact hD
        refine lv_aload_n hx hb dX8_edge_128 rfl (lv_at hl 0 rfl) ?_
        refine lv_dup hx hb dX8_edge_129 rfl ?_
        refine va_get (D := (dC, dI)) (ci := 8) (v := .int (I90 2)) (C := RX8) (T := TX8) (N := 20) hx hb hts hinX8 hown hK hP 0 rfl rfl 2 (by decide) hf61 (fun _ h9 => h9) rfl dX8_edge_130 ?_
        refine lv_iconst (v := 1) hx hb dX8_edge_133 (by decide) ?_
        refine lv_iadd hx hb dX8_edge_134 ?_
        refine lv_topi (fun x134 ex134 => ?_)
        refine va_put (D := (dC, dI)) (ci := 8) (v := .int x134) (ty := .int) (C := RX8) (T := TX8) (N := 20) hx hb hts hinX8 tyX8 tyX8_ok nmX8 hown hK hP hD hS 0 rfl rfl 2 (by decide) hf61 (fun _ h9 => h9) rfl (by decide +kernel) rfl rfl (Nat.le_of_ble_eq_true rfl) dX8_edge_135 (fun H locs hP hD hS => ?_)
        obtain ⟨I135, eI135⟩ : ∃ z : Nat → Int32, z = va_up I90 2 x134 := ⟨_, rfl⟩
        have hP : va_P (dC, dI) vwCl (MW cI cJ cZ R (I135, A127, B_85)) H := by rw [eI135]; exact hP
        have hD : va_D Aa (MW cI cJ cZ R (I135, A127, B_85)) := by rw [eI135]; exact hD
        refine lv_aload_n hx hb dX8_edge_138 rfl (lv_at hl 0 rfl) ?_
        refine va_get (D := (dC, dI)) (ci := 8) (v := .int (I135 2)) (C := RX8) (T := TX8) (N := 20) hx hb hts hinX8 hown hK hP 0 rfl rfl 2 (by decide) hf61 (fun _ h9 => h9) rfl dX8_edge_139 ?_
        refine lv_iconst (v := 1) hx hb dX8_edge_142 (by decide) ?_
        refine lv_isub hx hb dX8_edge_143 ?_
        refine lv_topi (fun x143 ex143 => ?_)
        refine hret 144 ls _ _ x143 (I135, A127, B_85) dX8_edge_144 rfl ?_ hP hD hS
        try dsimp only
        refine ⟨fun h => absurd h h4.2.1, fun h hh => absurd hh h4.2.2.2, fun _ _ => ?_⟩
        refine ⟨by rw [eI135, up_ne (by decide), eI90, up_self, h4.1, h4.2.2.1]; rfl, by rw [ex143, eI135, up_self, ex134, h2]; exact (by rw [nI_1]; exact nI_pred ne), by show I135 2 = _; rw [eI135, up_self, ex134, h2]; exact nI_1 ne, fun k a1 a2 a3 => by show I135 k = _; rw [eI135, up_ne a2, eI90, up_ne a1]; exact hf.1 k a3,
          by show A127 3 = _; rw [eA127, up_ne (by decide), eA117, up_ne (by decide), eA107, up_self, hcl, show A_85 3 = A 3 from hf.2.1 3 (by decide) (by decide)], by show A127 4 = _; rw [eA127, up_ne (by decide), eA117, up_self, eA107, up_ne (by decide), hcl, show A_85 4 = A 4 from hf.2.1 4 (by decide) (by decide)],
          by show A127 5 = _; rw [eA127, up_self, eA117, up_ne (by decide), eA107, up_ne (by decide), hcl, show A_85 5 = A 5 from hf.2.1 5 (by decide) (by decide)], fun k a1 a2 a3 a4 a5 => by show A127 k = _; rw [eA127, up_ne a3, eA117, up_ne a2, eA107, up_ne a1]; exact hf.2.1 k a4 a5, hf.2.2⟩
      · -- 93 not
        rw [w90] at c93
        refine lv_iconst (v := 0) hx hb dX8_edge_96 (by decide) ?_
        refine hret 97 ls _ _ 0 (I90, A_85, B_85) dX8_edge_97 rfl ?_ hP hD hS
        try dsimp only
        refine ⟨fun h => ?_, fun h hh => ?_, fun h hh => ?_⟩
        · rcases h3 with h4 | h4 | h4
          · refine ⟨by rw [eI90, up_self, h4.1]; rfl, fQ0 _ eI90⟩
          · exact absurd h h4.2.1
          · exact absurd h h4.2.1
        · rcases h3 with h4 | h4 | h4
          · exact absurd h4.2.2 h
          · refine ⟨by rw [eI90, up_self, h4.1, h4.2.2.1]; rfl, fQ0 _ eI90⟩
          · exact absurd hh h4.2.2.2
        · rcases h3 with h4 | h4 | h4
          · exact absurd h4.2.2 h
          · exact absurd h4.2.2.2 hh
          · rw [h4.1, h4.2.2.1] at c93; exact absurd rfl c93
    refine lv_iconst (v := 0) hx hb dX8_edge_33 (by decide) ?_
    refine lv_istore (lv' := [(5, .int 0), (4, .int o), (0, .ref (R 0)), (1, .int a), (2, .int b), (3, .int w)]) hx hb dX8_edge_34 hl (by decide) rfl (fun ls hl => ?_)
    refine lv_iload hx hb dX8_edge_36 (lv_at hl 1 rfl) ?_
    refine lv_if_ne (tgt := 85) hx hb dX8_edge_38 (by decide) (fun c38 => ?_) (fun c38 => ?_)
    · -- 38 taken
      have hbad : o = 1 ∧ bE nv a b w := inv31.elim id (fun h => absurd h.1 c38)
      exact K85 0 I A B ls _ _  ⟨fJ.rf, Or.inl ⟨hbad.1, rfl, hbad.2⟩⟩ hP hD hS (lv_sub hl [2, 3, 4, 5, 1, 0] rfl)
    · -- 38 not
      have hok : o = 0 ∧ ¬ bE nv a b w := inv31.elim (fun h => by rw [h.1] at c38; exact absurd c38 (by decide)) id
      obtain ⟨ja, hja, eja, cja⟩ := vtx_of (a := a) g.2.1 (fun h => hok.2 (Or.inl h)) (fun h => hok.2 (Or.inr (Or.inl h)))
      obtain ⟨jb, hjb, ejb, cjb⟩ := vtx_of (a := b) g.2.1 (fun h => hok.2 (Or.inr (Or.inr (Or.inl h)))) (fun h => hok.2 (Or.inr (Or.inr (Or.inr (Or.inl h)))))
      refine lv_aload_n hx hb dX8_edge_41 rfl (lv_at hl 2 rfl) ?_
      refine ct_calli hD hS hA (va_runV (As := []) (rest := []) F ((k_X8_dimension l dC dI cI cJ cZ cII cJJ R I A B nv ne fr to wt g) _) (cwV 0 hts gX8_edge_X8_dimension rfl rfl rfl (by decide +kernel) ⟨(Nat.le_of_ble_eq_true rfl), (Nat.le_of_ble_eq_true rfl)⟩) (ct_preV 0 8 hK hN hP hD rfl rfl) rfl rfl hl.1 rfl (lv_room (Nat.le_of_ble_eq_true rfl)) dX8_edge_42 ⟨(Nat.le_of_ble_eq_true rfl), (Nat.le_of_ble_eq_true rfl)⟩) (fun r42 u42 H locs w42 hP hD hS => ?_)
      obtain ⟨I42, A42, B42⟩ := u42
      have gg := g.fj w42.2.2
      have hq := w42.2.1
      have hdd := jd_lt (fr := fr) (to := to) (s := fl ne) (k := ne)
      have g3 := g.2.2.1
      have g2 := g.2.1
      refine lv_istore (lv' := [(6, .int r42), (5, .int 0), (4, .int o), (0, .ref (R 0)), (1, .int a), (2, .int b), (3, .int w)]) hx hb dX8_edge_45 hl (by decide) rfl (fun ls hl => ?_)
      have K83 : ∀ (f : Int32) (ls : Array Slot) (H : Heap) (locs : List Loc), ((f = 1 ∧ fE ne (jRun fr to (fl ne) ne) a b) ∨ (f = 0 ∧ ¬ fE ne (jRun fr to (fl ne) ne) a b)) → va_P (dC, dI) vwCl (MW cI cJ cZ R (I42, A42, B42)) H → va_D Aa (MW cI cJ cZ R (I42, A42, B42)) → va_S Aa s.heap H locs → lv_has ls 7 [(0, .ref (R 0)), (1, .int a), (2, .int b), (3, .int w), (4, .int o)] → W p l e (ctR (3, 80)) s m #[.ref (R 0), .int a, .int b, .int w] below meth c H locs 0 0 Q (F0 m 83 ls [.int f]) := by
        intro f ls H locs inv83 hP hD hS hl
        refine lv_istore (lv' := [(5, .int f), (0, .ref (R 0)), (1, .int a), (2, .int b), (3, .int w), (4, .int o)]) hx hb dX8_edge_83 hl (by decide) rfl (fun ls hl => ?_)
        exact K85 f I42 A42 B42 ls _ _  ⟨w42.2.2, inv83.elim (fun h => Or.inr (Or.inl ⟨hok.1, hok.2, h.1, h.2⟩)) (fun h => Or.inr (Or.inr ⟨hok.1, hok.2, h.1, h.2⟩))⟩ hP hD hS (lv_sub hl [1, 2, 3, 4, 5, 0] rfl)
      refine lv_aload_n hx hb dX8_edge_47 rfl (lv_at hl 3 rfl) ?_
      refine va_get (D := (dC, dI)) (ci := 8) (v := .int (I42 2)) (C := RX8) (T := TX8) (N := 20) hx hb hts hinX8 hown hK hP 0 rfl rfl 2 (by decide) hf61 (fun _ h9 => h9) rfl dX8_edge_48 ?_
      refine lv_bipush (v := 40) hx hb dX8_edge_51 (by decide) ?_
      refine lv_icmp_eq (tgt := 78) hx hb dX8_edge_53 (by decide) (fun c53 => ?_) (fun c53 => ?_)
      · -- 53 taken
        rw [show I42 2 = nI ne from gg.2.2.2.2.1] at c53
        have c53 : ne = 40 := (nI_eq (by omega) (by omega)).mp c53
        refine lv_iconst (v := 1) hx hb dX8_edge_78 (by decide) ?_
        refine lv_goto (tgt := 83) hx hb dX8_edge_79 (by decide) ?_
        exact K83 1 ls _ _  (Or.inl ⟨rfl, Or.inl c53⟩) hP hD hS (lv_sub hl [3, 4, 5, 6, 2] rfl)
      · -- 53 not
        rw [show I42 2 = nI ne from gg.2.2.2.2.1] at c53
        have c53 : ¬ ne = 40 := fun h => c53 (by rw [h]; rfl)
        refine lv_iload hx hb dX8_edge_56 (lv_at hl 0 rfl) ?_
        refine lv_bipush (v := 14) hx hb dX8_edge_58 (by decide) ?_
        refine lv_icmp_ne (tgt := 82) hx hb dX8_edge_60 (by decide) (fun c60 => ?_) (fun c60 => ?_)
        · -- 60 taken
          rw [w42.1] at c60
          have c60 : ¬ (jRun fr to (fl ne) ne).2.2.1 = 14 := fun h => c60 (by rw [h]; rfl)
          refine lv_iconst (v := 0) hx hb dX8_edge_82 (by decide) ?_
          exact K83 0 ls _ _  (Or.inr ⟨rfl, fun h => h.elim c53 (fun h => c60 h.1)⟩) hP hD hS (lv_sub hl [3, 4, 5, 6, 2] rfl)
        · -- 60 not
          rw [w42.1] at c60
          have c60 : (jRun fr to (fl ne) ne).2.2.1 = 14 := (nI_eq (by omega) (by omega)).mp c60
          refine lv_aload_n hx hb dX8_edge_63 rfl (lv_at hl 3 rfl) ?_
          refine va_get (D := (dC, dI)) (ci := 8) (v := .ref (R 8)) (C := RX8) (T := TX8) (N := 20) hx hb hts hinX8 hown hK hP 0 rfl rfl 8 (by decide) hf27 (fun _ h9 => h9) rfl dX8_edge_64 ?_
          refine lv_iload_n hx hb dX8_edge_67 rfl (lv_at hl 4 rfl) ?_
          have h68 : vp_in a 16 := by rw [eja]; exact vp_in_nI (by omega) (by omega)
          refine va_iald hx hb hK hP 5 0 rfl rfl h68 dX8_edge_68 ?_
          refine lv_topi (fun x68 ex68 => ?_)
          have ex68 : x68 = A42 8 a.toNatClampNeg := ex68
          have ex68 : x68 = nI ((jRun fr to (fl ne) ne).1 ja) := by rw [ex68, cja]; exact (hq.1 ja hja).1
          refine lv_aload_n hx hb dX8_edge_69 rfl (lv_at hl 3 rfl) ?_
          refine va_get (D := (dC, dI)) (ci := 8) (v := .ref (R 8)) (C := RX8) (T := TX8) (N := 20) hx hb hts hinX8 hown hK hP 0 rfl rfl 8 (by decide) hf27 (fun _ h9 => h9) rfl dX8_edge_70 ?_
          refine lv_iload_n hx hb dX8_edge_73 rfl (lv_at hl 5 rfl) ?_
          have h74 : vp_in b 16 := by rw [ejb]; exact vp_in_nI (by omega) (by omega)
          refine va_iald hx hb hK hP 5 0 rfl rfl h74 dX8_edge_74 ?_
          refine lv_topi (fun x74 ex74 => ?_)
          have ex74 : x74 = A42 8 b.toNatClampNeg := ex74
          have ex74 : x74 = nI ((jRun fr to (fl ne) ne).1 jb) := by rw [ex74, cjb]; exact (hq.1 jb hjb).1
          have b1 := (hq.1 ja hja).2
          have b2 := (hq.1 jb hjb).2
          refine lv_icmp_ne (tgt := 82) hx hb dX8_edge_75 (by decide) (fun c75 => ?_) (fun c75 => ?_)
          · -- 75 taken
            rw [ex68, ex74, nI_eq (by omega) (by omega), ← cja, ← cjb] at c75
            refine lv_iconst (v := 0) hx hb dX8_edge_82 (by decide) ?_
            exact K83 0 ls _ _  (Or.inr ⟨rfl, fun h => h.elim c53 (fun h => c75 h.2)⟩) hP hD hS (lv_sub hl [3, 4, 5, 6, 2] rfl)
          · -- 75 not
            rw [ex68, ex74, nI_eq (by omega) (by omega), ← cja, ← cjb] at c75
            refine lv_iconst (v := 1) hx hb dX8_edge_78 (by decide) ?_
            refine lv_goto (tgt := 83) hx hb dX8_edge_79 (by decide) ?_
            exact K83 1 ls _ _  (Or.inl ⟨rfl, Or.inr ⟨c60, c75⟩⟩) hP hD hS (lv_sub hl [3, 4, 5, 6, 2] rfl)
  refine lv_aload_n hx hb dX8_edge_0 rfl (lv_at hl 0 rfl) ?_
  refine lv_iload_n hx hb dX8_edge_1 rfl (lv_at hl 1 rfl) ?_
  refine ct_calli hD hS hA (va_runV (As := [.int a]) (rest := []) F ((k_X8_isVertex l dC dI cI cJ cZ cII cJJ R I A B a) _) (cwV 1 hts gX8_edge_X8_isVertex rfl rfl rfl (by decide +kernel) ⟨(Nat.le_of_ble_eq_true rfl), (Nat.le_of_ble_eq_true rfl)⟩) (ct_preV 0 8 hK hN hP hD rfl rfl) rfl rfl hl.1 rfl (lv_room (Nat.le_of_ble_eq_true rfl)) dX8_edge_2 ⟨(Nat.le_of_ble_eq_true rfl), (Nat.le_of_ble_eq_true rfl)⟩) (fun r2 u2 H locs w2 hP hD hS => ?_)
  obtain ⟨w2, rfl⟩ := w2
  refine lv_if_eq (tgt := 26) hx hb dX8_edge_5 (by decide) (fun c5 => ?_) (fun c5 => ?_)
  · -- 5 taken
    rw [w2, g.2.2.2.1, isv] at c5
    refine lv_iconst (v := 1) hx hb dX8_edge_26 (by decide) ?_
    refine lv_goto (tgt := 31) hx hb dX8_edge_27 (by decide) ?_
    exact K31 1 ls _ _  (Or.inl ⟨rfl, by rcases c5 with h | h; exact Or.inl h; exact Or.inr (Or.inl h)⟩) hP hD hS (lv_sub hl [0, 1, 2, 3] rfl)
  · -- 5 not
    rw [w2, g.2.2.2.1, isv] at c5
    refine lv_aload_n hx hb dX8_edge_8 rfl (lv_at hl 0 rfl) ?_
    refine lv_iload_n hx hb dX8_edge_9 rfl (lv_at hl 2 rfl) ?_
    refine ct_calli hD hS hA (va_runV (As := [.int b]) (rest := []) F ((k_X8_isVertex l dC dI cI cJ cZ cII cJJ R I A B b) _) (cwV 1 hts gX8_edge_X8_isVertex rfl rfl rfl (by decide +kernel) ⟨(Nat.le_of_ble_eq_true rfl), (Nat.le_of_ble_eq_true rfl)⟩) (ct_preV 0 8 hK hN hP hD rfl rfl) rfl rfl hl.1 rfl (lv_room (Nat.le_of_ble_eq_true rfl)) dX8_edge_10 ⟨(Nat.le_of_ble_eq_true rfl), (Nat.le_of_ble_eq_true rfl)⟩) (fun r10 u10 H locs w10 hP hD hS => ?_)
    obtain ⟨w10, rfl⟩ := w10
    refine lv_if_eq (tgt := 26) hx hb dX8_edge_13 (by decide) (fun c13 => ?_) (fun c13 => ?_)
    · -- 13 taken
      rw [w10, g.2.2.2.1, isv] at c13
      refine lv_iconst (v := 1) hx hb dX8_edge_26 (by decide) ?_
      refine lv_goto (tgt := 31) hx hb dX8_edge_27 (by decide) ?_
      exact K31 1 ls _ _  (Or.inl ⟨rfl, by rcases c13 with h | h; exact Or.inr (Or.inr (Or.inl h)); exact Or.inr (Or.inr (Or.inr (Or.inl h)))⟩) hP hD hS (lv_sub hl [0, 1, 2, 3] rfl)
    · -- 13 not
      rw [w10, g.2.2.2.1, isv] at c13
      refine lv_iload_n hx hb dX8_edge_16 rfl (lv_at hl 3 rfl) ?_
      refine lv_if_lt (tgt := 26) hx hb dX8_edge_17 (by decide) (fun c17 => ?_) (fun c17 => ?_)
      · -- 17 taken
        refine lv_iconst (v := 1) hx hb dX8_edge_26 (by decide) ?_
        refine lv_goto (tgt := 31) hx hb dX8_edge_27 (by decide) ?_
        exact K31 1 ls _ _  (Or.inl ⟨rfl, Or.inr (Or.inr (Or.inr (Or.inr (Or.inl c17))))⟩) hP hD hS (lv_sub hl [0, 1, 2, 3] rfl)
      · -- 17 not
        refine lv_iload_n hx hb dX8_edge_20 rfl (lv_at hl 3 rfl) ?_
        refine lv_ldc (v := 1000000000) hx hb hown (hts (.constant RX8 85 1000000000) (by decide +kernel)) dX8_edge_21 ?_
        refine lv_icmp_le (tgt := 30) hx hb dX8_edge_23 (by decide) (fun c23 => ?_) (fun c23 => ?_)
        · -- 23 taken
          refine lv_iconst (v := 0) hx hb dX8_edge_30 (by decide) ?_
          exact K31 0 ls _ _  (Or.inr ⟨rfl, by rintro (h | h | h | h | h | h); exact c5 (Or.inl h); exact c5 (Or.inr h); exact c13 (Or.inl h); exact c13 (Or.inr h); exact c17 h; exact Int32.not_lt.mpr c23 h⟩) hP hD hS (lv_sub hl [0, 1, 2, 3] rfl)
        · -- 23 not
          refine lv_iconst (v := 1) hx hb dX8_edge_26 (by decide) ?_
          refine lv_goto (tgt := 31) hx hb dX8_edge_27 (by decide) ?_
          exact K31 1 ls _ _  (Or.inl ⟨rfl, Or.inr (Or.inr (Or.inr (Or.inr (Or.inr (Int32.not_le.mp c23)))))⟩) hP hD hS (lv_sub hl [0, 1, 2, 3] rfl)
end
section
set_option maxHeartbeats 4000000 in
set_option maxRecDepth 100000 in
theorem k_X8_spread (l : Launch) (dC : Nat → ClassId) (dI : Nat → Nat → Nat) (cI cJ cZ cII cJJ : ClassId) (R : Nat → Nat) (I : Nat → Int32) (A : Nat → Nat → Int32) (B : Nat → Nat → Int64) (nv ne : Nat) (fr to wt : Nat → Nat) (g : gM nv ne fr to wt I A) (hd : dmA fr to ne ≤ 14) : ctI l (dC, dI) (tyL cI cJ cZ cII cJJ) (MW cI cJ cZ R) yX8_spread wsX8_spread (3, 80) [.ref (R 0)] (I, A, B) (fun r u => r = nI (2 ^ dmA fr to ne) ∧ (∀ c, c < 2 ^ dmA fr to ne → u.2.2 13 c = lN (elA fr to ne c) ∧ u.2.2 14 c = lN (wsum wt (elA fr to ne c) ne)) ∧ rJ nv (jRun fr to (fl ne) ne) u.1 u.2.1 u.2.2 ∧ fS I A B u) := by
  refine ctI_intro (cc := cX8_spread) (maxL := 4) (by decide) rfl (Nat.le_of_ble_eq_true rfl) ?_
  intro p e s m below meth c ls Aa Q F hK hN hP hD hS hA hl hret
  have hx := F.1
  have hb := F.2.1
  have hown : s.vm.findClass RX8 = some m.cls := F.2.2.2.1
  have hts := F.2.2.2.2
  have hinX8 : ∀ w ∈ wsX80, w ∈ wsX8_spread := by decide +kernel
  have hf39 := hts (.fieldLink RX8 39 "CycleHouseModel" "elements" "[J") (by decide +kernel)
  have hf64 := hts (.fieldLink RX8 64 "CycleHouseModel" "closed" "I") (by decide +kernel)
  have hf33 := hts (.fieldLink RX8 33 "CycleHouseModel" "closing" "[J") (by decide +kernel)
  have hf42 := hts (.fieldLink RX8 42 "CycleHouseModel" "weights" "[J") (by decide +kernel)
  have hl : lv_has ls 4 [(0, .ref (R 0))] := hl
  refine lv_iconst (v := 1) hx hb dX8_spread_0 (by decide) ?_
  refine lv_aload_n hx hb dX8_spread_1 rfl (lv_at hl 0 rfl) ?_
  refine ct_calli hD hS hA (va_runV (As := []) (rest := [.int 1]) F ((k_X8_dimension l dC dI cI cJ cZ cII cJJ R I A B nv ne fr to wt g) _) (cwV 0 hts gX8_spread_X8_dimension rfl rfl rfl (by decide +kernel) ⟨(Nat.le_of_ble_eq_true rfl), (Nat.le_of_ble_eq_true rfl)⟩) (ct_preV 0 8 hK hN hP hD rfl rfl) rfl rfl hl.1 rfl (lv_room (Nat.le_of_ble_eq_true rfl)) dX8_spread_2 ⟨(Nat.le_of_ble_eq_true rfl), (Nat.le_of_ble_eq_true rfl)⟩) (fun r2 u2 H locs w2 hP hD hS => ?_)
  obtain ⟨I2, A2, B2⟩ := u2
  have gg := g.fj w2.2.2
  have hq := w2.2.1
  have hpw := pw14 hd
  refine lv_ishl hx hb dX8_spread_5 ?_
  refine lv_topi (fun x5 ex5 => ?_)
  have ex5 : x5 = nI (2 ^ dmA fr to ne) := by rw [ex5, w2.1]; exact nm_ishl (Nat.lt_of_le_of_lt hd (by decide))
  subst ex5
  refine lv_istore_n (lv' := [(1, .int (nI (2 ^ dmA fr to ne))), (0, .ref (R 0))]) hx hb dX8_spread_6 rfl hl (by decide) rfl (fun ls hl => ?_)
  refine lv_iconst (v := 0) hx hb dX8_spread_7 (by decide) ?_
  refine lv_istore_n (lv' := [(2, .int 0), (1, .int (nI (2 ^ dmA fr to ne))), (0, .ref (R 0))]) hx hb dX8_spread_8 rfl hl (by decide) rfl (fun ls hl => ?_)
  have K9 : ∀ (kn : Nat) (k : Nat) (B_9 : Nat → Nat → Int64) (ls : Array Slot) (H : Heap) (locs : List Loc), 2 ^ (dmA fr to ne) - k < kn → (k ≤ 2 ^ (dmA fr to ne) ∧ (∀ c, c < k → B_9 13 c = lN (elA fr to ne c) ∧ B_9 14 c = lN (wsum wt (elA fr to ne c) ne)) ∧ (∀ j, j ≠ 13 → j ≠ 14 → B_9 j = B2 j)) → va_P (dC, dI) vwCl (MW cI cJ cZ R (I2, A2, B_9)) H → va_D Aa (MW cI cJ cZ R (I2, A2, B_9)) → va_S Aa s.heap H locs → lv_has ls 4 [(0, .ref (R 0)), (1, .int (nI (2 ^ dmA fr to ne))), (2, .int (nI k))] → W p l e (ctR (3, 80)) s m #[.ref (R 0)] below meth c H locs 0 0 Q (F0 m 9 ls []) := by
    intro kn
    induction kn with
    | zero => intro k B_9 ls H locs hmu; exact absurd hmu (Nat.not_lt_zero _)
    | succ kn ih9 =>
      intro k B_9 ls H locs mu9 inv9 hP hD hS hl
      obtain ⟨hk, b1, b2⟩ := inv9
      refine lv_iload_n hx hb dX8_spread_9 rfl (lv_at hl 2 rfl) ?_
      refine lv_iload_n hx hb dX8_spread_10 rfl (lv_at hl 1 rfl) ?_
      refine lv_icmp_ge (tgt := 83) hx hb dX8_spread_11 (by decide) (fun c11 => ?_) (fun c11 => ?_)
      · -- 11 taken
        rw [nI_leI (by omega) (by omega)] at c11
        have hge : k = 2 ^ (dmA fr to ne) := by omega
        refine lv_iload_n hx hb dX8_spread_83 rfl (lv_at hl 1 rfl) ?_
        refine hret 84 ls _ _ (nI (2 ^ dmA fr to ne)) (I2, A2, B_9) dX8_spread_84 rfl ?_ hP hD hS
        try dsimp only
        exact ⟨rfl, fun c hc => b1 c (by omega), ⟨hq.1, by rw [b2 9 (by decide) (by decide)]; exact hq.2.1, hq.2.2.1, by rw [b2 11 (by decide) (by decide)]; exact hq.2.2.2⟩, fS.of w2.2.2.1 w2.2.2.2.1 (fun j h1 h2 h3 h4 => (b2 j h3 h4).trans (w2.2.2.2.2 j h1 h2))⟩
      · -- 11 not
        rw [nI_leI (by omega) (by omega)] at c11
        have kcl : (nI k).toNatClampNeg = k := nI_clamp (by omega)
        have kin : vp_in (nI k) 16384 := vp_in_nI (by omega) (by omega)
        refine lv_aload_n hx hb dX8_spread_14 rfl (lv_at hl 0 rfl) ?_
        refine va_get (D := (dC, dI)) (ci := 8) (v := .ref (R 13)) (C := RX8) (T := TX8) (N := 20) hx hb hts hinX8 hown hK hP 0 rfl rfl 13 (by decide) hf39 (fun _ h9 => h9) rfl dX8_spread_15 ?_
        refine lv_iload_n hx hb dX8_spread_18 rfl (lv_at hl 2 rfl) ?_
        refine lv_lconst (v := 0) hx hb dX8_spread_19 (by decide) ?_
        have h20 : vp_in (nI k) 16384 := kin
        refine va_last hx hb hK hP hD hS 9 1 rfl rfl h20 dX8_spread_20 (fun H locs hP hD hS => ?_)
        obtain ⟨B20, eB20⟩ : ∃ z : Nat → Nat → Int64, z = va_up B_9 13 (vp_updL (B_9 13) (nI k).toNatClampNeg 0) := ⟨_, rfl⟩
        have hP : va_P (dC, dI) vwCl (MW cI cJ cZ R (I2, A2, B20)) H := by rw [eB20]; exact hP
        have hD : va_D Aa (MW cI cJ cZ R (I2, A2, B20)) := by rw [eB20]; exact hD
        refine lv_iconst (v := 0) hx hb dX8_spread_21 (by decide) ?_
        refine lv_istore_n (lv' := [(3, .int 0), (0, .ref (R 0)), (1, .int (nI (2 ^ dmA fr to ne))), (2, .int (nI k))]) hx hb dX8_spread_22 rfl hl (by decide) rfl (fun ls hl => ?_)
        have K23 : ∀ (kn : Nat) (i : Nat) (B_23 : Nat → Nat → Int64) (ls : Array Slot) (H : Heap) (locs : List Loc), dmA fr to ne - i < kn → (i ≤ dmA fr to ne ∧ B_23 13 k = lN (cb (rgA fr to ne) i k) ∧ (∀ c, c < k → B_23 13 c = lN (elA fr to ne c) ∧ B_23 14 c = lN (wsum wt (elA fr to ne c) ne)) ∧ (∀ j, j ≠ 13 → j ≠ 14 → B_23 j = B2 j)) → va_P (dC, dI) vwCl (MW cI cJ cZ R (I2, A2, B_23)) H → va_D Aa (MW cI cJ cZ R (I2, A2, B_23)) → va_S Aa s.heap H locs → lv_has ls 4 [(0, .ref (R 0)), (1, .int (nI (2 ^ dmA fr to ne))), (2, .int (nI k)), (3, .int (nI i))] → W p l e (ctR (3, 80)) s m #[.ref (R 0)] below meth c H locs 0 0 Q (F0 m 23 ls []) := by
          intro kn
          induction kn with
          | zero => intro i B_23 ls H locs hmu; exact absurd hmu (Nat.not_lt_zero _)
          | succ kn ih23 =>
            intro i B_23 ls H locs mu23 inv23 hP hD hS hl
            obtain ⟨hi, b3, b4, b5⟩ := inv23
            have b11 : B_23 11 = B2 11 := b5 11 (by decide) (by decide)
            refine lv_iload_n hx hb dX8_spread_23 rfl (lv_at hl 3 rfl) ?_
            refine lv_aload_n hx hb dX8_spread_24 rfl (lv_at hl 0 rfl) ?_
            refine va_get (D := (dC, dI)) (ci := 8) (v := .int (I2 10)) (C := RX8) (T := TX8) (N := 20) hx hb hts hinX8 hown hK hP 0 rfl rfl 10 (by decide) hf64 (fun _ h9 => h9) rfl dX8_spread_25 ?_
            refine lv_icmp_ge (tgt := 61) hx hb dX8_spread_28 (by decide) (fun c28 => ?_) (fun c28 => ?_)
            · -- 28 taken
              rw [show I2 10 = nI (dmA fr to ne) from hq.2.2.1, nI_leI (by omega) (by omega)] at c28
              have hge : i = dmA fr to ne := by omega
              rw [hge] at b3
              refine lv_aload_n hx hb dX8_spread_61 rfl (lv_at hl 0 rfl) ?_
              refine va_get (D := (dC, dI)) (ci := 8) (v := .ref (R 14)) (C := RX8) (T := TX8) (N := 20) hx hb hts hinX8 hown hK hP 0 rfl rfl 14 (by decide) hf42 (fun _ h9 => h9) rfl dX8_spread_62 ?_
              refine lv_iload_n hx hb dX8_spread_65 rfl (lv_at hl 2 rfl) ?_
              refine lv_aload_n hx hb dX8_spread_66 rfl (lv_at hl 0 rfl) ?_
              refine lv_aload_n hx hb dX8_spread_67 rfl (lv_at hl 0 rfl) ?_
              refine va_get (D := (dC, dI)) (ci := 8) (v := .ref (R 13)) (C := RX8) (T := TX8) (N := 20) hx hb hts hinX8 hown hK hP 0 rfl rfl 13 (by decide) hf39 (fun _ h9 => h9) rfl dX8_spread_68 ?_
              refine lv_iload_n hx hb dX8_spread_71 rfl (lv_at hl 2 rfl) ?_
              have h72 : vp_in (nI k) 16384 := kin
              refine va_lald hx hb hK hP 9 1 rfl rfl h72 dX8_spread_72 ?_
              refine lv_topl (fun x72 ex72 => ?_)
              have ex72 : x72 = B_23 13 (nI k).toNatClampNeg := ex72
              have ex72 : x72 = lN (elA fr to ne k) := by rw [ex72, kcl]; exact b3
              subst ex72
              refine ct_calll hD hS hA (va_runV (As := [.long (lN (elA fr to ne k))]) (rest := [.int (nI k), .ref (R 14)]) F ((k_X8_weightOf l dC dI cI cJ cZ cII cJJ R I2 A2 B_23 nv ne fr to wt (elA fr to ne k) gg (pw40 (elA_lt (by have := g.2.2.1; omega) g.en (Nat.le_refl _)) g.2.2.1)) _) (cwV 1 hts gX8_spread_X8_weightOf rfl rfl rfl (by decide +kernel) ⟨(Nat.le_of_ble_eq_true rfl), (Nat.le_of_ble_eq_true rfl)⟩) (ct_preV 0 8 hK hN hP hD rfl rfl) rfl rfl hl.1 rfl (lv_room (Nat.le_of_ble_eq_true rfl)) dX8_spread_73 ⟨(Nat.le_of_ble_eq_true rfl), (Nat.le_of_ble_eq_true rfl)⟩) (fun r73 u73 H locs w73 hP hD hS => ?_)
              obtain ⟨w73, rfl⟩ := w73
              have h76 : vp_in (nI k) 16384 := kin
              refine va_last hx hb hK hP hD hS 10 1 rfl rfl h76 dX8_spread_76 (fun H locs hP hD hS => ?_)
              obtain ⟨B76, eB76⟩ : ∃ z : Nat → Nat → Int64, z = va_up B_23 14 (vp_updL (B_23 14) (nI k).toNatClampNeg r73) := ⟨_, rfl⟩
              have hP : va_P (dC, dI) vwCl (MW cI cJ cZ R (I2, A2, B76)) H := by rw [eB76]; exact hP
              have hD : va_D Aa (MW cI cJ cZ R (I2, A2, B76)) := by rw [eB76]; exact hD
              obtain ⟨x77, ex77⟩ : ∃ y : Int32, y = nI k + (1) := ⟨_, rfl⟩
              refine lv_iinc (v := x77) (lv' := [(2, .int x77), (0, .ref (R 0)), (1, .int (nI (2 ^ dmA fr to ne))), (3, .int (nI i))]) hx hb dX8_spread_77 hl (k := 2) rfl (by rw [ex77]; rfl) (by decide) rfl (fun ls hl => ?_)
              have ex77 : x77 = nI (k + 1) := by rw [ex77]; exact nI_1 k
              subst ex77
              refine lv_goto (tgt := 9) hx hb dX8_spread_80 (by decide) ?_
              exact ih9 (k + 1) B76 ls _ _ (by omega) ⟨by omega, fun c hc => by
            rw [eB76, up_ne (by decide), up_self, kcl]
            by_cases hck : c = k
            · subst hck; rw [pk_uLs, w73]; exact ⟨b3, rfl⟩
            · rw [pk_uLn hck]; exact b4 c (by omega), fun j h1 h2 => by rw [eB76, up_ne h2]; exact b5 j h1 h2⟩ hP hD hS (lv_sub hl [1, 2, 0] rfl)
            · -- 28 not
              rw [show I2 10 = nI (dmA fr to ne) from hq.2.2.1, nI_leI (by omega) (by omega)] at c28
              have icl : (nI i).toNatClampNeg = i := nI_clamp (by omega)
              refine lv_iload_n hx hb dX8_spread_31 rfl (lv_at hl 2 rfl) ?_
              refine lv_iload_n hx hb dX8_spread_32 rfl (lv_at hl 3 rfl) ?_
              refine lv_ishr hx hb dX8_spread_33 ?_
              refine lv_topi (fun x33 ex33 => ?_)
              refine lv_iconst (v := 1) hx hb dX8_spread_34 (by decide) ?_
              refine lv_iand hx hb dX8_spread_35 ?_
              refine lv_topi (fun x35 ex35 => ?_)
              refine lv_iconst (v := 1) hx hb dX8_spread_36 (by decide) ?_
              refine lv_icmp_ne (tgt := 55) hx hb dX8_spread_37 (by decide) (fun c37 => ?_) (fun c37 => ?_)
              · -- 37 taken
                rw [ex35, ex33, nm_ibit1 (by omega) (by omega)] at c37
                obtain ⟨x55, ex55⟩ : ∃ y : Int32, y = nI i + (1) := ⟨_, rfl⟩
                refine lv_iinc (v := x55) (lv' := [(3, .int x55), (0, .ref (R 0)), (1, .int (nI (2 ^ dmA fr to ne))), (2, .int (nI k))]) hx hb dX8_spread_55 hl (k := 3) rfl (by rw [ex55]; rfl) (by decide) rfl (fun ls hl => ?_)
                have ex55 : x55 = nI (i + 1) := by rw [ex55]; exact nI_1 i
                subst ex55
                refine lv_goto (tgt := 23) hx hb dX8_spread_58 (by decide) ?_
                exact ih23 (i + 1) B_23 ls _ _ (by omega) ⟨by omega, by rw [cb, if_neg c37, Nat.xor_zero]; exact b3, b4, b5⟩ hP hD hS (lv_sub hl [1, 2, 3, 0] rfl)
              · -- 37 not
                rw [ex35, ex33, nm_ibit1 (by omega) (by omega)] at c37
                refine lv_aload_n hx hb dX8_spread_40 rfl (lv_at hl 0 rfl) ?_
                refine va_get (D := (dC, dI)) (ci := 8) (v := .ref (R 13)) (C := RX8) (T := TX8) (N := 20) hx hb hts hinX8 hown hK hP 0 rfl rfl 13 (by decide) hf39 (fun _ h9 => h9) rfl dX8_spread_41 ?_
                refine lv_iload_n hx hb dX8_spread_44 rfl (lv_at hl 2 rfl) ?_
                refine lv_dup2_11 hx hb dX8_spread_45 rfl rfl ?_
                have h46 : vp_in (nI k) 16384 := kin
                refine va_lald hx hb hK hP 9 1 rfl rfl h46 dX8_spread_46 ?_
                refine lv_topl (fun x46 ex46 => ?_)
                have ex46 : x46 = B_23 13 (nI k).toNatClampNeg := ex46
                refine lv_aload_n hx hb dX8_spread_47 rfl (lv_at hl 0 rfl) ?_
                refine va_get (D := (dC, dI)) (ci := 8) (v := .ref (R 11)) (C := RX8) (T := TX8) (N := 20) hx hb hts hinX8 hown hK hP 0 rfl rfl 11 (by decide) hf33 (fun _ h9 => h9) rfl dX8_spread_48 ?_
                refine lv_iload_n hx hb dX8_spread_51 rfl (lv_at hl 3 rfl) ?_
                have h52 : vp_in (nI i) 40 := vp_in_nI (by omega) (by omega)
                refine va_lald hx hb hK hP 7 1 rfl rfl h52 dX8_spread_52 ?_
                refine lv_topl (fun x52 ex52 => ?_)
                have ex52 : x52 = B_23 11 (nI i).toNatClampNeg := ex52
                refine lv_lxor hx hb dX8_spread_53 ?_
                refine lv_topl (fun x53 ex53 => ?_)
                have h54 : vp_in (nI k) 16384 := kin
                refine va_last hx hb hK hP hD hS 9 1 rfl rfl h54 dX8_spread_54 (fun H locs hP hD hS => ?_)
                obtain ⟨B54, eB54⟩ : ∃ z : Nat → Nat → Int64, z = va_up B_23 13 (vp_updL (B_23 13) (nI k).toNatClampNeg x53) := ⟨_, rfl⟩
                have hP : va_P (dC, dI) vwCl (MW cI cJ cZ R (I2, A2, B54)) H := by rw [eB54]; exact hP
                have hD : va_D Aa (MW cI cJ cZ R (I2, A2, B54)) := by rw [eB54]; exact hD
                obtain ⟨x55, ex55⟩ : ∃ y : Int32, y = nI i + (1) := ⟨_, rfl⟩
                refine lv_iinc (v := x55) (lv' := [(3, .int x55), (0, .ref (R 0)), (1, .int (nI (2 ^ dmA fr to ne))), (2, .int (nI k))]) hx hb dX8_spread_55 hl (k := 3) rfl (by rw [ex55]; rfl) (by decide) rfl (fun ls hl => ?_)
                have ex55 : x55 = nI (i + 1) := by rw [ex55]; exact nI_1 i
                subst ex55
                refine lv_goto (tgt := 23) hx hb dX8_spread_58 (by decide) ?_
                exact ih23 (i + 1) B54 ls _ _ (by omega) ⟨by omega, by rw [eB54, up_self, kcl, pk_uLs, ex53, ex46, ex52, kcl, icl, b3, b11, show B2 11 i = lN (rgA fr to ne i) from (hq.2.2.2 i (Nat.lt_of_not_le c28)).1, lN_xor, cb, if_pos c37], fun c hc => by rw [eB54, up_self, up_ne (by decide), kcl, pk_uLn (by omega)]; exact b4 c hc, fun j h1 h2 => by rw [eB54, up_ne h1]; exact b5 j h1 h2⟩ hP hD hS (lv_sub hl [1, 2, 3, 0] rfl)
        exact K23 _ 0 B20 ls _ _ (Nat.lt_succ_self _) ⟨by omega, by rw [eB20, up_self, kcl, pk_uLs]; rfl, fun c hc => by rw [eB20, up_self, up_ne (by decide), kcl, pk_uLn (by omega)]; exact b1 c hc, fun j h1 h2 => by rw [eB20, up_ne h1]; exact b2 j h1 h2⟩ hP hD hS (lv_sub hl [1, 2, 3, 0] rfl)
  exact K9 _ 0 B2 ls _ _ (Nat.lt_succ_self _) ⟨Nat.zero_le _, fun c h => absurd h (by omega), fun _ _ _ => rfl⟩ hP hD hS (lv_sub hl [2, 1, 0] rfl)
end
section
set_option maxHeartbeats 4000000 in
set_option maxRecDepth 100000 in
theorem k_X8_endsAt (l : Launch) (dC : Nat → ClassId) (dI : Nat → Nat → Nat) (cI cJ cZ cII cJJ : ClassId) (R : Nat → Nat) (I : Nat → Int32) (A : Nat → Nat → Int32) (B : Nat → Nat → Int64) (nv ne : Nat) (fr to wt : Nat → Nat) (z v : Nat) (g : gM nv ne fr to wt I A) (hz : z < 2 ^ 62) (hv : v < nv) : ctI l (dC, dI) (tyL cI cJ cZ cII cJJ) (MW cI cJ cZ R) yX8_endsAt wsX8_endsAt (0, 0) [.ref (R 0), .long (lN z), .int (nI v)] (I, A, B) (fun r u => r = nI (dg fr to z ne v) ∧ u = (I, A, B)) := by
  refine ctI_intro (cc := cX8_endsAt) (maxL := 6) (by decide) rfl (Nat.le_of_ble_eq_true rfl) ?_
  intro p e s m below meth c ls Aa Q F hK hN hP hD hS hA hl hret
  have hx := F.1
  have hb := F.2.1
  have hown : s.vm.findClass RX8 = some m.cls := F.2.2.2.1
  have hts := F.2.2.2.2
  have hinX8 : ∀ w ∈ wsX80, w ∈ wsX8_endsAt := by decide +kernel
  have hf61 := hts (.fieldLink RX8 61 "CycleHouseModel" "m" "I") (by decide +kernel)
  have hf13 := hts (.fieldLink RX8 13 "CycleHouseModel" "from" "[I") (by decide +kernel)
  have hf17 := hts (.fieldLink RX8 17 "CycleHouseModel" "to" "[I") (by decide +kernel)
  have hl : lv_has ls 6 [(0, .ref (R 0)), (1, .long (lN z)), (3, .int (nI v))] := hl
  obtain ⟨g1, g2, g3, g4, g5, g6⟩ := id g
  refine lv_iconst (v := 0) hx hb dX8_endsAt_0 (by decide) ?_
  refine lv_istore (lv' := [(4, .int 0), (0, .ref (R 0)), (1, .long (lN z)), (3, .int (nI v))]) hx hb dX8_endsAt_1 hl (by decide) rfl (fun ls hl => ?_)
  refine lv_iconst (v := 0) hx hb dX8_endsAt_3 (by decide) ?_
  refine lv_istore (lv' := [(5, .int 0), (4, .int 0), (0, .ref (R 0)), (1, .long (lN z)), (3, .int (nI v))]) hx hb dX8_endsAt_4 hl (by decide) rfl (fun ls hl => ?_)
  have K6 : ∀ (kn : Nat) (i : Nat) (x : Int32) (ls : Array Slot) (H : Heap) (locs : List Loc), ne - i < kn → (i ≤ ne ∧ x = nI (dg fr to z i v)) → va_P (dC, dI) vwCl (MW cI cJ cZ R (I, A, B)) H → va_D Aa (MW cI cJ cZ R (I, A, B)) → va_S Aa s.heap H locs → lv_has ls 6 [(0, .ref (R 0)), (1, .long (lN z)), (3, .int (nI v)), (4, .int x), (5, .int (nI i))] → W p l e (ctR (0, 0)) s m #[.ref (R 0), .long (lN z), .int (nI v)] below meth c H locs 0 0 Q (F0 m 6 ls []) := by
    intro kn
    induction kn with
    | zero => intro i x ls H locs hmu; exact absurd hmu (Nat.not_lt_zero _)
    | succ kn ih6 =>
      intro i x ls H locs mu6 inv6 hP hD hS hl
      obtain ⟨hi, ex⟩ := inv6
      refine lv_iload hx hb dX8_endsAt_6 (lv_at hl 4 rfl) ?_
      refine lv_aload_n hx hb dX8_endsAt_8 rfl (lv_at hl 0 rfl) ?_
      refine va_get (D := (dC, dI)) (ci := 8) (v := .int (I 2)) (C := RX8) (T := TX8) (N := 20) hx hb hts hinX8 hown hK hP 0 rfl rfl 2 (by decide) hf61 (fun _ h9 => h9) rfl dX8_endsAt_9 ?_
      refine lv_icmp_ge (tgt := 77) hx hb dX8_endsAt_12 (by decide) (fun c12 => ?_) (fun c12 => ?_)
      · -- 12 taken
        rw [g5, nI_leI (by omega) (by omega)] at c12
        have hge : i = ne := by omega
        rw [hge] at ex
        refine lv_iload hx hb dX8_endsAt_77 (lv_at hl 3 rfl) ?_
        refine hret 79 ls _ _ x (I, A, B) dX8_endsAt_79 rfl ?_ hP hD hS
        try dsimp only
        exact ⟨ex, rfl⟩
      · -- 12 not
        rw [g5, nI_leI (by omega) (by omega)] at c12
        have icl : (nI i).toNatClampNeg = i := nI_clamp (by omega)
        have iin : vp_in (nI i) 40 := vp_in_nI (by omega) (by omega)
        have gi := g6 i (by omega)
        refine lv_lload_n hx hb dX8_endsAt_15 rfl (lv_at hl 1 rfl) ?_
        refine lv_iload hx hb dX8_endsAt_16 (lv_at hl 4 rfl) ?_
        refine lv_lshr hx hb dX8_endsAt_18 rfl ?_
        refine lv_topl (fun x18 ex18 => ?_)
        refine lv_lconst (v := 1) hx hb dX8_endsAt_19 (by decide) ?_
        refine lv_land hx hb dX8_endsAt_20 ?_
        refine lv_topl (fun x20 ex20 => ?_)
        refine lv_lconst (v := 0) hx hb dX8_endsAt_21 (by decide) ?_
        refine W.lcmp hx hb dX8_endsAt_22 ?_
        refine lv_if_ne (tgt := 29) hx hb dX8_endsAt_23 (by decide) (fun c23 => ?_) (fun c23 => ?_)
        · -- 23 taken
          rw [lg_cmp_eq] at c23
          rw [ex20, ex18, nm_bit0 hz (by omega)] at c23
          have c23 : z.testBit i = true := by cases h : z.testBit i with | true => rfl | false => exact absurd h c23
          have K47 : ∀ (y : Int32) (ls : Array Slot) (H : Heap) (locs : List Loc), (y = nI (if fr i = v then 1 else 0)) → va_P (dC, dI) vwCl (MW cI cJ cZ R (I, A, B)) H → va_D Aa (MW cI cJ cZ R (I, A, B)) → va_S Aa s.heap H locs → lv_has ls 6 [(0, .ref (R 0)), (1, .long (lN z)), (3, .int (nI v)), (4, .int x), (5, .int (nI i))] → W p l e (ctR (0, 0)) s m #[.ref (R 0), .long (lN z), .int (nI v)] below meth c H locs 0 0 Q (F0 m 47 ls [.int y, .int x]) := by
            intro y ls H locs inv47 hP hD hS hl
            have inv46 := inv47
            refine lv_iadd hx hb dX8_endsAt_47 ?_
            refine lv_topi (fun x47 ex47 => ?_)
            refine lv_istore (lv' := [(4, .int x47), (0, .ref (R 0)), (1, .long (lN z)), (3, .int (nI v)), (5, .int (nI i))]) hx hb dX8_endsAt_48 hl (by decide) rfl (fun ls hl => ?_)
            have K68 : ∀ (y2 : Int32) (ls : Array Slot) (H : Heap) (locs : List Loc), (y2 = nI (if to i = v then 1 else 0)) → va_P (dC, dI) vwCl (MW cI cJ cZ R (I, A, B)) H → va_D Aa (MW cI cJ cZ R (I, A, B)) → va_S Aa s.heap H locs → lv_has ls 6 [(0, .ref (R 0)), (1, .long (lN z)), (3, .int (nI v)), (4, .int x47), (5, .int (nI i))] → W p l e (ctR (0, 0)) s m #[.ref (R 0), .long (lN z), .int (nI v)] below meth c H locs 0 0 Q (F0 m 68 ls [.int y2, .int x47]) := by
              intro y2 ls H locs inv68 hP hD hS hl
              have inv67 := inv68
              refine lv_iadd hx hb dX8_endsAt_68 ?_
              refine lv_topi (fun x68 ex68 => ?_)
              refine lv_istore (lv' := [(4, .int x68), (0, .ref (R 0)), (1, .long (lN z)), (3, .int (nI v)), (5, .int (nI i))]) hx hb dX8_endsAt_69 hl (by decide) rfl (fun ls hl => ?_)
              obtain ⟨x71, ex71⟩ : ∃ y : Int32, y = nI i + (1) := ⟨_, rfl⟩
              refine lv_iinc (v := x71) (lv' := [(5, .int x71), (4, .int x68), (0, .ref (R 0)), (1, .long (lN z)), (3, .int (nI v))]) hx hb dX8_endsAt_71 hl (k := 4) rfl (by rw [ex71]; rfl) (by decide) rfl (fun ls hl => ?_)
              have ex71 : x71 = nI (i + 1) := by rw [ex71]; exact nI_1 i
              subst ex71
              refine lv_goto (tgt := 6) hx hb dX8_endsAt_74 (by decide) ?_
              exact ih6 (i + 1) x68 ls _ _ (by omega) ⟨by omega, by rw [ex68, inv67, ex47, inv46, ex, dg, if_pos c23, nI_add, nI_add, Nat.add_assoc]⟩ hP hD hS (lv_sub hl [2, 3, 4, 1, 0] rfl)
            refine lv_iload hx hb dX8_endsAt_50 (lv_at hl 0 rfl) ?_
            refine lv_aload_n hx hb dX8_endsAt_52 rfl (lv_at hl 1 rfl) ?_
            refine va_get (D := (dC, dI)) (ci := 8) (v := .ref (R 4)) (C := RX8) (T := TX8) (N := 20) hx hb hts hinX8 hown hK hP 0 rfl rfl 4 (by decide) hf17 (fun _ h9 => h9) rfl dX8_endsAt_53 ?_
            refine lv_iload hx hb dX8_endsAt_56 (lv_at hl 4 rfl) ?_
            have h58 : vp_in (nI i) 40 := iin
            refine va_iald hx hb hK hP 2 0 rfl rfl h58 dX8_endsAt_58 ?_
            refine lv_topi (fun x58 ex58 => ?_)
            have ex58 : x58 = A 4 (nI i).toNatClampNeg := ex58
            have ex58 : x58 = nI (to i) := by rw [ex58, icl]; exact gi.2.1.1
            subst ex58
            refine lv_iload_n hx hb dX8_endsAt_59 rfl (lv_at hl 3 rfl) ?_
            refine lv_icmp_ne (tgt := 67) hx hb dX8_endsAt_60 (by decide) (fun c60 => ?_) (fun c60 => ?_)
            · -- 60 taken
              rw [nI_eq (by omega) (by omega)] at c60
              refine lv_iconst (v := 0) hx hb dX8_endsAt_67 (by decide) ?_
              exact K68 0 ls _ _  (by rw [if_neg c60]; rfl) hP hD hS (lv_sub hl [1, 2, 3, 0, 4] rfl)
            · -- 60 not
              rw [nI_eq (by omega) (by omega)] at c60
              refine lv_iconst (v := 1) hx hb dX8_endsAt_63 (by decide) ?_
              refine lv_goto (tgt := 68) hx hb dX8_endsAt_64 (by decide) ?_
              exact K68 1 ls _ _  (by rw [if_pos c60]; rfl) hP hD hS (lv_sub hl [1, 2, 3, 0, 4] rfl)
          refine lv_iload hx hb dX8_endsAt_29 (lv_at hl 3 rfl) ?_
          refine lv_aload_n hx hb dX8_endsAt_31 rfl (lv_at hl 0 rfl) ?_
          refine va_get (D := (dC, dI)) (ci := 8) (v := .ref (R 3)) (C := RX8) (T := TX8) (N := 20) hx hb hts hinX8 hown hK hP 0 rfl rfl 3 (by decide) hf13 (fun _ h9 => h9) rfl dX8_endsAt_32 ?_
          refine lv_iload hx hb dX8_endsAt_35 (lv_at hl 4 rfl) ?_
          have h37 : vp_in (nI i) 40 := iin
          refine va_iald hx hb hK hP 1 0 rfl rfl h37 dX8_endsAt_37 ?_
          refine lv_topi (fun x37 ex37 => ?_)
          have ex37 : x37 = A 3 (nI i).toNatClampNeg := ex37
          have ex37 : x37 = nI (fr i) := by rw [ex37, icl]; exact gi.1.1
          subst ex37
          refine lv_iload_n hx hb dX8_endsAt_38 rfl (lv_at hl 2 rfl) ?_
          refine lv_icmp_ne (tgt := 46) hx hb dX8_endsAt_39 (by decide) (fun c39 => ?_) (fun c39 => ?_)
          · -- 39 taken
            rw [nI_eq (by omega) (by omega)] at c39
            refine lv_iconst (v := 0) hx hb dX8_endsAt_46 (by decide) ?_
            exact K47 0 ls _ _  (by rw [if_neg c39]; rfl) hP hD hS (lv_sub hl [0, 1, 2, 3, 4] rfl)
          · -- 39 not
            rw [nI_eq (by omega) (by omega)] at c39
            refine lv_iconst (v := 1) hx hb dX8_endsAt_42 (by decide) ?_
            refine lv_goto (tgt := 47) hx hb dX8_endsAt_43 (by decide) ?_
            exact K47 1 ls _ _  (by rw [if_pos c39]; rfl) hP hD hS (lv_sub hl [0, 1, 2, 3, 4] rfl)
        · -- 23 not
          rw [lg_cmp_eq] at c23
          rw [ex20, ex18, nm_bit0 hz (by omega)] at c23
          refine lv_goto (tgt := 71) hx hb dX8_endsAt_26 (by decide) ?_
          obtain ⟨x71, ex71⟩ : ∃ y : Int32, y = nI i + (1) := ⟨_, rfl⟩
          refine lv_iinc (v := x71) (lv' := [(5, .int x71), (0, .ref (R 0)), (1, .long (lN z)), (3, .int (nI v)), (4, .int x)]) hx hb dX8_endsAt_71 hl (k := 4) rfl (by rw [ex71]; rfl) (by decide) rfl (fun ls hl => ?_)
          have ex71 : x71 = nI (i + 1) := by rw [ex71]; exact nI_1 i
          subst ex71
          refine lv_goto (tgt := 6) hx hb dX8_endsAt_74 (by decide) ?_
          exact ih6 (i + 1) x ls _ _ (by omega) ⟨by omega, by rw [ex, dg, if_neg (by rw [c23]; decide), Nat.add_zero]⟩ hP hD hS (lv_sub hl [1, 2, 3, 4, 0] rfl)
  exact K6 _ 0 0 ls _ _ (Nat.lt_succ_self _) ⟨by omega, rfl⟩ hP hD hS (lv_sub hl [2, 3, 4, 1, 0] rfl)
set_option maxHeartbeats 4000000 in
set_option maxRecDepth 100000 in
theorem k_X8_isEven (l : Launch) (dC : Nat → ClassId) (dI : Nat → Nat → Nat) (cI cJ cZ cII cJJ : ClassId) (R : Nat → Nat) (I : Nat → Int32) (A : Nat → Nat → Int32) (B : Nat → Nat → Int64) (nv ne : Nat) (fr to wt : Nat → Nat) (z : Nat) (g : gM nv ne fr to wt I A) (hz : z < 2 ^ 62) : ctI l (dC, dI) (tyL cI cJ cZ cII cJJ) (MW cI cJ cZ R) yX8_isEven wsX8_isEven (1, 30) [.ref (R 0), .long (lN z)] (I, A, B) (fun r u => r = (if evn fr to nv ne z then 1 else 0) ∧ u = (I, A, B)) := by
  refine ctI_intro (cc := cX8_isEven) (maxL := 5) (by decide) rfl (Nat.le_of_ble_eq_true rfl) ?_
  intro p e s m below meth c ls Aa Q F hK hN hP hD hS hA hl hret
  have hx := F.1
  have hb := F.2.1
  have hown : s.vm.findClass RX8 = some m.cls := F.2.2.2.1
  have hts := F.2.2.2.2
  have hinX8 : ∀ w ∈ wsX80, w ∈ wsX8_isEven := by decide +kernel
  have hf7 := hts (.fieldLink RX8 7 "CycleHouseModel" "n" "I") (by decide +kernel)
  have hl : lv_has ls 5 [(0, .ref (R 0)), (1, .long (lN z))] := hl
  obtain ⟨g1, g2, g3, g4, g5, g6⟩ := id g
  refine lv_iconst (v := 1) hx hb dX8_isEven_0 (by decide) ?_
  refine lv_istore_n (lv' := [(3, .int 1), (0, .ref (R 0)), (1, .long (lN z))]) hx hb dX8_isEven_1 rfl hl (by decide) rfl (fun ls hl => ?_)
  refine lv_iconst (v := 0) hx hb dX8_isEven_2 (by decide) ?_
  refine lv_istore (lv' := [(4, .int 0), (3, .int 1), (0, .ref (R 0)), (1, .long (lN z))]) hx hb dX8_isEven_3 hl (by decide) rfl (fun ls hl => ?_)
  have K5 : ∀ (kn : Nat) (i : Nat) (x : Int32) (ls : Array Slot) (H : Heap) (locs : List Loc), nv - i < kn → (i ≤ nv ∧ x = (if evn fr to i ne z then 1 else 0)) → va_P (dC, dI) vwCl (MW cI cJ cZ R (I, A, B)) H → va_D Aa (MW cI cJ cZ R (I, A, B)) → va_S Aa s.heap H locs → lv_has ls 5 [(0, .ref (R 0)), (1, .long (lN z)), (3, .int x), (4, .int (nI i))] → W p l e (ctR (1, 30)) s m #[.ref (R 0), .long (lN z)] below meth c H locs 0 0 Q (F0 m 5 ls []) := by
    intro kn
    induction kn with
    | zero => intro i x ls H locs hmu; exact absurd hmu (Nat.not_lt_zero _)
    | succ kn ih5 =>
      intro i x ls H locs mu5 inv5 hP hD hS hl
      obtain ⟨hi, ex⟩ := inv5
      refine lv_iload hx hb dX8_isEven_5 (lv_at hl 3 rfl) ?_
      refine lv_aload_n hx hb dX8_isEven_7 rfl (lv_at hl 0 rfl) ?_
      refine va_get (D := (dC, dI)) (ci := 8) (v := .int (I 1)) (C := RX8) (T := TX8) (N := 20) hx hb hts hinX8 hown hK hP 0 rfl rfl 1 (by decide) hf7 (fun _ h9 => h9) rfl dX8_isEven_8 ?_
      refine lv_icmp_ge (tgt := 42) hx hb dX8_isEven_11 (by decide) (fun c11 => ?_) (fun c11 => ?_)
      · -- 11 taken
        rw [g4, nI_leI (by omega) (by omega)] at c11
        have hge : i = nv := by omega
        rw [hge] at ex
        refine lv_iload_n hx hb dX8_isEven_42 rfl (lv_at hl 2 rfl) ?_
        refine hret 43 ls _ _ x (I, A, B) dX8_isEven_43 (by rw [ex]; split <;> rfl) ?_ hP hD hS
        try dsimp only
        exact ⟨ex, rfl⟩
      · -- 11 not
        rw [g4, nI_leI (by omega) (by omega)] at c11
        refine lv_iload_n hx hb dX8_isEven_14 rfl (lv_at hl 2 rfl) ?_
        refine lv_if_eq (tgt := 34) hx hb dX8_isEven_15 (by decide) (fun c15 => ?_) (fun c15 => ?_)
        · -- 15 taken
          have c15 : ¬ evn fr to i ne z := fun h => by rw [ex, if_pos h] at c15; exact absurd c15 (by decide)
          refine lv_iconst (v := 0) hx hb dX8_isEven_34 (by decide) ?_
          refine lv_istore_n (lv' := [(3, .int 0), (0, .ref (R 0)), (1, .long (lN z)), (4, .int (nI i))]) hx hb dX8_isEven_35 rfl hl (by decide) rfl (fun ls hl => ?_)
          obtain ⟨x36, ex36⟩ : ∃ y : Int32, y = nI i + (1) := ⟨_, rfl⟩
          refine lv_iinc (v := x36) (lv' := [(4, .int x36), (3, .int 0), (0, .ref (R 0)), (1, .long (lN z))]) hx hb dX8_isEven_36 hl (k := 3) rfl (by rw [ex36]; rfl) (by decide) rfl (fun ls hl => ?_)
          have ex36 : x36 = nI (i + 1) := by rw [ex36]; exact nI_1 i
          subst ex36
          refine lv_goto (tgt := 5) hx hb dX8_isEven_39 (by decide) ?_
          exact ih5 (i + 1) 0 ls _ _ (by omega) ⟨by omega, by rw [if_neg (fun h => c15 (fun v hv => h v (by omega)))]⟩ hP hD hS (lv_sub hl [2, 3, 1, 0] rfl)
        · -- 15 not
          have c15 : evn fr to i ne z := Classical.byContradiction (fun h => by rw [ex, if_neg h] at c15; exact c15 rfl)
          refine lv_aload_n hx hb dX8_isEven_18 rfl (lv_at hl 0 rfl) ?_
          refine lv_lload_n hx hb dX8_isEven_19 rfl (lv_at hl 1 rfl) ?_
          refine lv_iload hx hb dX8_isEven_20 (lv_at hl 3 rfl) ?_
          refine ct_calli hD hS hA (va_runV (As := [.long (lN z), .int (nI i)]) (rest := []) F ((k_X8_endsAt l dC dI cI cJ cZ cII cJJ R I A B nv ne fr to wt z i g hz (by omega)) _) (cwV 2 hts gX8_isEven_X8_endsAt rfl rfl rfl (by decide +kernel) ⟨(Nat.le_of_ble_eq_true rfl), (Nat.le_of_ble_eq_true rfl)⟩) (ct_preV 0 8 hK hN hP hD rfl rfl) rfl rfl hl.1 rfl (lv_room (Nat.le_of_ble_eq_true rfl)) dX8_isEven_22 ⟨(Nat.le_of_ble_eq_true rfl), (Nat.le_of_ble_eq_true rfl)⟩) (fun r22 u22 H locs w22 hP hD hS => ?_)
          obtain ⟨w22, rfl⟩ := w22
          have hdl := dg_le fr to z i ne
          refine lv_iconst (v := 2) hx hb dX8_isEven_25 (by decide) ?_
          refine lv_irem hx hb dX8_isEven_26 (by decide) ?_
          refine lv_topi (fun x26 ex26 => ?_)
          refine lv_if_ne (tgt := 34) hx hb dX8_isEven_27 (by decide) (fun c27 => ?_) (fun c27 => ?_)
          · -- 27 taken
            rw [ex26, w22, nm_rem2 (by omega)] at c27
            have c27 : ¬ dg fr to z ne i % 2 = 0 := fun h => c27 (by rw [h]; rfl)
            refine lv_iconst (v := 0) hx hb dX8_isEven_34 (by decide) ?_
            refine lv_istore_n (lv' := [(3, .int 0), (0, .ref (R 0)), (1, .long (lN z)), (4, .int (nI i))]) hx hb dX8_isEven_35 rfl hl (by decide) rfl (fun ls hl => ?_)
            obtain ⟨x36, ex36⟩ : ∃ y : Int32, y = nI i + (1) := ⟨_, rfl⟩
            refine lv_iinc (v := x36) (lv' := [(4, .int x36), (3, .int 0), (0, .ref (R 0)), (1, .long (lN z))]) hx hb dX8_isEven_36 hl (k := 3) rfl (by rw [ex36]; rfl) (by decide) rfl (fun ls hl => ?_)
            have ex36 : x36 = nI (i + 1) := by rw [ex36]; exact nI_1 i
            subst ex36
            refine lv_goto (tgt := 5) hx hb dX8_isEven_39 (by decide) ?_
            exact ih5 (i + 1) 0 ls _ _ (by omega) ⟨by omega, by rw [if_neg (fun h => c27 (h i (by omega)))]⟩ hP hD hS (lv_sub hl [2, 3, 1, 0] rfl)
          · -- 27 not
            rw [ex26, w22, nm_rem2 (by omega)] at c27
            have c27 : dg fr to z ne i % 2 = 0 := (nI_eq (b := 0) (by omega) (by omega)).mp c27
            refine lv_iconst (v := 1) hx hb dX8_isEven_30 (by decide) ?_
            refine lv_goto (tgt := 35) hx hb dX8_isEven_31 (by decide) ?_
            refine lv_istore_n (lv' := [(3, .int 1), (0, .ref (R 0)), (1, .long (lN z)), (4, .int (nI i))]) hx hb dX8_isEven_35 rfl hl (by decide) rfl (fun ls hl => ?_)
            obtain ⟨x36, ex36⟩ : ∃ y : Int32, y = nI i + (1) := ⟨_, rfl⟩
            refine lv_iinc (v := x36) (lv' := [(4, .int x36), (3, .int 1), (0, .ref (R 0)), (1, .long (lN z))]) hx hb dX8_isEven_36 hl (k := 3) rfl (by rw [ex36]; rfl) (by decide) rfl (fun ls hl => ?_)
            have ex36 : x36 = nI (i + 1) := by rw [ex36]; exact nI_1 i
            subst ex36
            refine lv_goto (tgt := 5) hx hb dX8_isEven_39 (by decide) ?_
            exact ih5 (i + 1) 1 ls _ _ (by omega) ⟨by omega, by rw [if_pos (bll_succ.mpr ⟨c15, c27⟩)]⟩ hP hD hS (lv_sub hl [2, 3, 1, 0] rfl)
  exact K5 _ 0 1 ls _ _ (Nat.lt_succ_self _) ⟨by omega, by rw [if_pos (fun v hv => absurd hv (Nat.not_lt_zero _))]⟩ hP hD hS (lv_sub hl [2, 3, 1, 0] rfl)
end
section
set_option maxHeartbeats 4000000 in
set_option maxRecDepth 100000 in
theorem k_X8_isRing (l : Launch) (dC : Nat → ClassId) (dI : Nat → Nat → Nat) (cI cJ cZ cII cJJ : ClassId) (R : Nat → Nat) (I : Nat → Int32) (A : Nat → Nat → Int32) (B : Nat → Nat → Int64) (nv ne : Nat) (fr to wt : Nat → Nat) (z : Nat) (g : gM nv ne fr to wt I A) (hz : z < 2 ^ 62) : ctI l (dC, dI) (tyL cI cJ cZ cII cJJ) (MW cI cJ cZ R) yX8_isRing wsX8_isRing (1, 30) [.ref (R 0), .long (lN z)] (I, A, B) (fun r u => r = (if rng fr to nv ne z then 1 else 0) ∧ fJ I A B u) := by
  refine ctI_intro (cc := cX8_isRing) (maxL := 7) (by decide) rfl (Nat.le_of_ble_eq_true rfl) ?_
  intro p e s m below meth c ls Aa Q F hK hN hP hD hS hA hl hret
  have hx := F.1
  have hb := F.2.1
  have hown : s.vm.findClass RX8 = some m.cls := F.2.2.2.1
  have hts := F.2.2.2.2
  have hinX8 : ∀ w ∈ wsX80, w ∈ wsX8_isRing := by decide +kernel
  have hf7 := hts (.fieldLink RX8 7 "CycleHouseModel" "n" "I") (by decide +kernel)
  have hf61 := hts (.fieldLink RX8 61 "CycleHouseModel" "m" "I") (by decide +kernel)
  have hl : lv_has ls 7 [(0, .ref (R 0)), (1, .long (lN z))] := hl
  obtain ⟨g1, g2, g3, g4, g5, g6⟩ := id g
  refine lv_lload_n hx hb dX8_isRing_0 rfl (lv_at hl 1 rfl) ?_
  refine lv_lconst (v := 0) hx hb dX8_isRing_1 (by decide) ?_
  refine W.lcmp hx hb dX8_isRing_2 ?_
  refine lv_if_ne (tgt := 8) hx hb dX8_isRing_3 (by decide) (fun c3 => ?_) (fun c3 => ?_)
  · -- 3 taken
    rw [lg_cmp_eq] at c3
    have c3 : z ≠ 0 := fun h => c3 (by rw [h]; rfl)
    refine lv_iconst (v := 1) hx hb dX8_isRing_8 (by decide) ?_
    refine lv_istore_n (lv' := [(3, .int 1), (0, .ref (R 0)), (1, .long (lN z))]) hx hb dX8_isRing_9 rfl hl (by decide) rfl (fun ls hl => ?_)
    refine lv_iconst (v := 0) hx hb dX8_isRing_10 (by decide) ?_
    refine lv_istore (lv' := [(4, .int 0), (3, .int 1), (0, .ref (R 0)), (1, .long (lN z))]) hx hb dX8_isRing_11 hl (by decide) rfl (fun ls hl => ?_)
    have K13 : ∀ (kn : Nat) (i : Nat) (x : Int32) (ls : Array Slot) (H : Heap) (locs : List Loc), nv - i < kn → (i ≤ nv ∧ x = (if (∀ v, v < i → dg fr to z ne v ≤ 2) then 1 else 0)) → va_P (dC, dI) vwCl (MW cI cJ cZ R (I, A, B)) H → va_D Aa (MW cI cJ cZ R (I, A, B)) → va_S Aa s.heap H locs → lv_has ls 7 [(0, .ref (R 0)), (1, .long (lN z)), (3, .int x), (4, .int (nI i))] → W p l e (ctR (1, 30)) s m #[.ref (R 0), .long (lN z)] below meth c H locs 0 0 Q (F0 m 13 ls []) := by
      intro kn
      induction kn with
      | zero => intro i x ls H locs hmu; exact absurd hmu (Nat.not_lt_zero _)
      | succ kn ih13 =>
        intro i x ls H locs mu13 inv13 hP hD hS hl
        obtain ⟨hi, ex⟩ := inv13
        refine lv_iload hx hb dX8_isRing_13 (lv_at hl 3 rfl) ?_
        refine lv_aload_n hx hb dX8_isRing_15 rfl (lv_at hl 0 rfl) ?_
        refine va_get (D := (dC, dI)) (ci := 8) (v := .int (I 1)) (C := RX8) (T := TX8) (N := 20) hx hb hts hinX8 hown hK hP 0 rfl rfl 1 (by decide) hf7 (fun _ h9 => h9) rfl dX8_isRing_16 ?_
        refine lv_icmp_ge (tgt := 49) hx hb dX8_isRing_19 (by decide) (fun c19 => ?_) (fun c19 => ?_)
        · -- 19 taken
          rw [g4, nI_leI (by omega) (by omega)] at c19
          have hge : i = nv := by omega
          rw [hge] at ex
          refine lv_iconst (v := 0) hx hb dX8_isRing_49 (by decide) ?_
          refine lv_istore (lv' := [(4, .int 0), (0, .ref (R 0)), (1, .long (lN z)), (3, .int x)]) hx hb dX8_isRing_50 hl (by decide) rfl (fun ls hl => ?_)
          refine lv_iconst (v := 0) hx hb dX8_isRing_52 (by decide) ?_
          refine lv_istore (lv' := [(5, .int 0), (4, .int 0), (0, .ref (R 0)), (1, .long (lN z)), (3, .int x)]) hx hb dX8_isRing_53 hl (by decide) rfl (fun ls hl => ?_)
          have K55 : ∀ (kn : Nat) (i : Nat) (y : Int32) (ls : Array Slot) (H : Heap) (locs : List Loc), ne - i < kn → (i ≤ ne ∧ y = nI (sz z i)) → va_P (dC, dI) vwCl (MW cI cJ cZ R (I, A, B)) H → va_D Aa (MW cI cJ cZ R (I, A, B)) → va_S Aa s.heap H locs → lv_has ls 7 [(0, .ref (R 0)), (1, .long (lN z)), (3, .int x), (4, .int y), (5, .int (nI i))] → W p l e (ctR (1, 30)) s m #[.ref (R 0), .long (lN z)] below meth c H locs 0 0 Q (F0 m 55 ls []) := by
            intro kn
            induction kn with
            | zero => intro i y ls H locs hmu; exact absurd hmu (Nat.not_lt_zero _)
            | succ kn ih55 =>
              intro i y ls H locs mu55 inv55 hP hD hS hl
              obtain ⟨hi, ey⟩ := inv55
              refine lv_iload hx hb dX8_isRing_55 (lv_at hl 4 rfl) ?_
              refine lv_aload_n hx hb dX8_isRing_57 rfl (lv_at hl 0 rfl) ?_
              refine va_get (D := (dC, dI)) (ci := 8) (v := .int (I 2)) (C := RX8) (T := TX8) (N := 20) hx hb hts hinX8 hown hK hP 0 rfl rfl 2 (by decide) hf61 (fun _ h9 => h9) rfl dX8_isRing_58 ?_
              refine lv_icmp_ge (tgt := 82) hx hb dX8_isRing_61 (by decide) (fun c61 => ?_) (fun c61 => ?_)
              · -- 61 taken
                rw [g5, nI_leI (by omega) (by omega)] at c61
                have hge : i = ne := by omega
                rw [hge] at ey
                refine lv_aload_n hx hb dX8_isRing_82 rfl (lv_at hl 0 rfl) ?_
                refine ct_callv hD hS hA (va_runV (As := []) (rest := []) F ((k_X8_beginGroups l dC dI cI cJ cZ cII cJJ R I A B ) _) (cwV 0 hts gX8_isRing_X8_beginGroups rfl rfl rfl (by decide +kernel) ⟨(Nat.le_of_ble_eq_true rfl), (Nat.le_of_ble_eq_true rfl)⟩) (ct_preV 0 8 hK hN hP hD rfl rfl) rfl rfl hl.1 rfl (lv_room (Nat.le_of_ble_eq_true rfl)) dX8_isRing_83 ⟨(Nat.le_of_ble_eq_true rfl), (Nat.le_of_ble_eq_true rfl)⟩) (fun u83 H locs w83 hP hD hS => ?_)
                obtain ⟨I83, A83, B83⟩ := u83
                refine lv_iconst (v := 0) hx hb dX8_isRing_86 (by decide) ?_
                refine lv_istore (lv' := [(5, .int 0), (0, .ref (R 0)), (1, .long (lN z)), (3, .int x), (4, .int y)]) hx hb dX8_isRing_87 hl (by decide) rfl (fun ls hl => ?_)
                refine lv_iconst (v := 0) hx hb dX8_isRing_89 (by decide) ?_
                refine lv_istore (lv' := [(6, .int 0), (5, .int 0), (0, .ref (R 0)), (1, .long (lN z)), (3, .int x), (4, .int y)]) hx hb dX8_isRing_90 hl (by decide) rfl (fun ls hl => ?_)
                have K92 : ∀ (kn : Nat) (i : Nat) (j : Int32) (I_92 : Nat → Int32) (A_92 : Nat → Nat → Int32) (B_92 : Nat → Nat → Int64) (ls : Array Slot) (H : Heap) (locs : List Loc), ne - i < kn → (i ≤ ne ∧ j + nI (jRun fr to z i).2.2.1 = nI (sz z i) ∧ rJ nv (jRun fr to z i) I_92 A_92 B_92 ∧ fJ I A B (I_92, A_92, B_92)) → va_P (dC, dI) vwCl (MW cI cJ cZ R (I_92, A_92, B_92)) H → va_D Aa (MW cI cJ cZ R (I_92, A_92, B_92)) → va_S Aa s.heap H locs → lv_has ls 7 [(0, .ref (R 0)), (1, .long (lN z)), (3, .int x), (4, .int y), (5, .int j), (6, .int (nI i))] → W p l e (ctR (1, 30)) s m #[.ref (R 0), .long (lN z)] below meth c H locs 0 0 Q (F0 m 92 ls []) := by
                  intro kn
                  induction kn with
                  | zero => intro i j I_92 A_92 B_92 ls H locs hmu; exact absurd hmu (Nat.not_lt_zero _)
                  | succ kn ih92 =>
                    intro i j I_92 A_92 B_92 ls H locs mu92 inv92 hP hD hS hl
                    obtain ⟨hi, ej, hq, hf⟩ := inv92
                    have gg := g.fj hf
                    refine lv_iload hx hb dX8_isRing_92 (lv_at hl 5 rfl) ?_
                    refine lv_aload_n hx hb dX8_isRing_94 rfl (lv_at hl 0 rfl) ?_
                    refine va_get (D := (dC, dI)) (ci := 8) (v := .int (I_92 2)) (C := RX8) (T := TX8) (N := 20) hx hb hts hinX8 hown hK hP 0 rfl rfl 2 (by decide) hf61 (fun _ h9 => h9) rfl dX8_isRing_95 ?_
                    refine lv_icmp_ge (tgt := 137) hx hb dX8_isRing_98 (by decide) (fun c98 => ?_) (fun c98 => ?_)
                    · -- 98 taken
                      rw [show I_92 2 = nI ne from gg.2.2.2.2.1, nI_leI (by omega) (by omega)] at c98
                      have hge : i = ne := by omega
                      rw [hge] at ej
                      have hsz := sz_le z ne
                      have hdd := jd_lt (fr := fr) (to := to) (s := z) (k := ne)
                      refine lv_iload_n hx hb dX8_isRing_137 rfl (lv_at hl 2 rfl) ?_
                      refine lv_if_eq (tgt := 154) hx hb dX8_isRing_138 (by decide) (fun c138 => ?_) (fun c138 => ?_)
                      · -- 138 taken
                        have c138 : ¬ (∀ v, v < nv → dg fr to z ne v ≤ 2) := fun h => by rw [ex, if_pos h] at c138; exact absurd c138 (by decide)
                        refine lv_iconst (v := 0) hx hb dX8_isRing_154 (by decide) ?_
                        refine hret 155 ls _ _ 0 (I_92, A_92, B_92) dX8_isRing_155 rfl ?_ hP hD hS
                        try dsimp only
                        exact ⟨by rw [if_neg (fun h => c138 h.2.1)], hf⟩
                      · -- 138 not
                        have c138 : (∀ v, v < nv → dg fr to z ne v ≤ 2) := Classical.byContradiction (fun h => by rw [ex, if_neg h] at c138; exact c138 rfl)
                        refine lv_iload hx hb dX8_isRing_141 (lv_at hl 4 rfl) ?_
                        refine lv_iload hx hb dX8_isRing_143 (lv_at hl 3 rfl) ?_
                        refine lv_iconst (v := 1) hx hb dX8_isRing_145 (by decide) ?_
                        refine lv_isub hx hb dX8_isRing_146 ?_
                        refine lv_topi (fun x146 ex146 => ?_)
                        refine lv_icmp_ne (tgt := 154) hx hb dX8_isRing_147 (by decide) (fun c147 => ?_) (fun c147 => ?_)
                        · -- 147 taken
                          have c147 : ¬ (jRun fr to z ne).2.2.1 = 1 := fun h => c147 (by rw [ex146, ey]; rw [h] at ej; have e1 : nI 1 = 1 := rfl; grind)
                          refine lv_iconst (v := 0) hx hb dX8_isRing_154 (by decide) ?_
                          refine hret 155 ls _ _ 0 (I_92, A_92, B_92) dX8_isRing_155 rfl ?_ hP hD hS
                          try dsimp only
                          exact ⟨by rw [if_neg (fun h => c147 h.2.2)], hf⟩
                        · -- 147 not
                          have c147 : (jRun fr to z ne).2.2.1 = 1 := (nI_eq (by omega) (by omega)).mp (by rw [ex146, ey] at c147; have e1 : nI 1 = 1 := rfl; grind)
                          refine lv_iconst (v := 1) hx hb dX8_isRing_150 (by decide) ?_
                          refine lv_goto (tgt := 155) hx hb dX8_isRing_151 (by decide) ?_
                          refine hret 155 ls _ _ 1 (I_92, A_92, B_92) dX8_isRing_155 rfl ?_ hP hD hS
                          try dsimp only
                          exact ⟨by rw [if_pos ⟨c3, c138, c147⟩], hf⟩
                    · -- 98 not
                      rw [show I_92 2 = nI ne from gg.2.2.2.2.1, nI_leI (by omega) (by omega)] at c98
                      refine lv_lload_n hx hb dX8_isRing_101 rfl (lv_at hl 1 rfl) ?_
                      refine lv_iload hx hb dX8_isRing_102 (lv_at hl 5 rfl) ?_
                      refine lv_lshr hx hb dX8_isRing_104 rfl ?_
                      refine lv_topl (fun x104 ex104 => ?_)
                      refine lv_lconst (v := 1) hx hb dX8_isRing_105 (by decide) ?_
                      refine lv_land hx hb dX8_isRing_106 ?_
                      refine lv_topl (fun x106 ex106 => ?_)
                      refine lv_lconst (v := 1) hx hb dX8_isRing_107 (by decide) ?_
                      refine W.lcmp hx hb dX8_isRing_108 ?_
                      refine lv_if_ne (tgt := 131) hx hb dX8_isRing_109 (by decide) (fun c109 => ?_) (fun c109 => ?_)
                      · -- 109 taken
                        rw [lg_cmp_eq] at c109
                        rw [ex106, ex104, nm_bit1 hz (by omega)] at c109
                        obtain ⟨x131, ex131⟩ : ∃ y : Int32, y = nI i + (1) := ⟨_, rfl⟩
                        refine lv_iinc (v := x131) (lv' := [(6, .int x131), (0, .ref (R 0)), (1, .long (lN z)), (3, .int x), (4, .int y), (5, .int j)]) hx hb dX8_isRing_131 hl (k := 5) rfl (by rw [ex131]; rfl) (by decide) rfl (fun ls hl => ?_)
                        have ex131 : x131 = nI (i + 1) := by rw [ex131]; exact nI_1 i
                        subst ex131
                        refine lv_goto (tgt := 92) hx hb dX8_isRing_134 (by decide) ?_
                        exact ih92 (i + 1) j I_92 A_92 B_92 ls _ _ (by omega) ⟨by omega, by rw [jRun_out c109]; simp only [sz, ct0]; rw [if_neg c109, Nat.add_zero]; exact ej, by rw [jRun_out c109]; exact hq, hf⟩ hP hD hS (lv_sub hl [1, 2, 3, 4, 5, 0] rfl)
                      · -- 109 not
                        rw [lg_cmp_eq] at c109
                        rw [ex106, ex104, nm_bit1 hz (by omega)] at c109
                        refine lv_iload hx hb dX8_isRing_112 (lv_at hl 4 rfl) ?_
                        refine lv_aload_n hx hb dX8_isRing_114 rfl (lv_at hl 0 rfl) ?_
                        refine lv_iload hx hb dX8_isRing_115 (lv_at hl 5 rfl) ?_
                        refine ct_calli hD hS hA (va_runV (As := [.int (nI i)]) (rest := [.int j]) F ((k_X8_joins l dC dI cI cJ cZ cII cJJ R I_92 A_92 B_92 nv ne fr to wt i (jRun fr to z i) gg (by omega) hq (by have := jd_lt (fr := fr) (to := to) (s := z) (k := i); omega)) _) (cwV 1 hts gX8_isRing_X8_joins rfl rfl rfl (by decide +kernel) ⟨(Nat.le_of_ble_eq_true rfl), (Nat.le_of_ble_eq_true rfl)⟩) (ct_preV 0 8 hK hN hP hD rfl rfl) rfl rfl hl.1 rfl (lv_room (Nat.le_of_ble_eq_true rfl)) dX8_isRing_117 ⟨(Nat.le_of_ble_eq_true rfl), (Nat.le_of_ble_eq_true rfl)⟩) (fun r117 u117 H locs w117 hP hD hS => ?_)
                        obtain ⟨I117, A117, B117⟩ := u117
                        refine lv_if_eq (tgt := 127) hx hb dX8_isRing_120 (by decide) (fun c120 => ?_) (fun c120 => ?_)
                        · -- 120 taken
                          rw [w117.1] at c120
                          have c120 : (jRun fr to z i).1 (fr i) = (jRun fr to z i).1 (to i) := Classical.byContradiction (fun h => by rw [if_neg h] at c120; exact absurd c120 (by decide))
                          refine lv_iconst (v := 0) hx hb dX8_isRing_127 (by decide) ?_
                          refine lv_iadd hx hb dX8_isRing_128 ?_
                          refine lv_topi (fun x128 ex128 => ?_)
                          refine lv_istore (lv' := [(5, .int x128), (0, .ref (R 0)), (1, .long (lN z)), (3, .int x), (4, .int y), (6, .int (nI i))]) hx hb dX8_isRing_129 hl (by decide) rfl (fun ls hl => ?_)
                          obtain ⟨x131, ex131⟩ : ∃ y : Int32, y = nI i + (1) := ⟨_, rfl⟩
                          refine lv_iinc (v := x131) (lv' := [(6, .int x131), (5, .int x128), (0, .ref (R 0)), (1, .long (lN z)), (3, .int x), (4, .int y)]) hx hb dX8_isRing_131 hl (k := 5) rfl (by rw [ex131]; rfl) (by decide) rfl (fun ls hl => ?_)
                          have ex131 : x131 = nI (i + 1) := by rw [ex131]; exact nI_1 i
                          subst ex131
                          refine lv_goto (tgt := 92) hx hb dX8_isRing_134 (by decide) ?_
                          exact ih92 (i + 1) x128 I117 A117 B117 ls _ _ (by omega) ⟨by omega, by rw [jRun_in c109, jd_close c120, ex128, ← nI_1]; simp only [sz, ct0]; rw [if_pos c109, ← nI_1]; have ej : j + nI (jRun fr to z i).2.2.1 = nI (ct0 i fun e => z.testBit e) := ej; grind, by rw [jRun_in c109]; exact w117.2.1, hf.tr w117.2.2⟩ hP hD hS (lv_sub hl [2, 3, 4, 5, 1, 0] rfl)
                        · -- 120 not
                          rw [w117.1] at c120
                          have c120 : (jRun fr to z i).1 (fr i) ≠ (jRun fr to z i).1 (to i) := fun h => c120 (if_pos h)
                          refine lv_iconst (v := 1) hx hb dX8_isRing_123 (by decide) ?_
                          refine lv_goto (tgt := 128) hx hb dX8_isRing_124 (by decide) ?_
                          refine lv_iadd hx hb dX8_isRing_128 ?_
                          refine lv_topi (fun x128 ex128 => ?_)
                          refine lv_istore (lv' := [(5, .int x128), (0, .ref (R 0)), (1, .long (lN z)), (3, .int x), (4, .int y), (6, .int (nI i))]) hx hb dX8_isRing_129 hl (by decide) rfl (fun ls hl => ?_)
                          obtain ⟨x131, ex131⟩ : ∃ y : Int32, y = nI i + (1) := ⟨_, rfl⟩
                          refine lv_iinc (v := x131) (lv' := [(6, .int x131), (5, .int x128), (0, .ref (R 0)), (1, .long (lN z)), (3, .int x), (4, .int y)]) hx hb dX8_isRing_131 hl (k := 5) rfl (by rw [ex131]; rfl) (by decide) rfl (fun ls hl => ?_)
                          have ex131 : x131 = nI (i + 1) := by rw [ex131]; exact nI_1 i
                          subst ex131
                          refine lv_goto (tgt := 92) hx hb dX8_isRing_134 (by decide) ?_
                          exact ih92 (i + 1) x128 I117 A117 B117 ls _ _ (by omega) ⟨by omega, by rw [jRun_in c109, jd_join c120, ex128]; simp only [sz, ct0]; rw [if_pos c109, ← nI_1]; have ej : j + nI (jRun fr to z i).2.2.1 = nI (ct0 i fun e => z.testBit e) := ej; grind, by rw [jRun_in c109]; exact w117.2.1, hf.tr w117.2.2⟩ hP hD hS (lv_sub hl [2, 3, 4, 5, 1, 0] rfl)
                exact K92 _ 0 0 I83 A83 B83 ls _ _ (Nat.lt_succ_self _) ⟨by omega, rfl, w83.1 nv g.2.1, w83.2⟩ hP hD hS (lv_sub hl [2, 3, 4, 5, 1, 0] rfl)
              · -- 61 not
                rw [g5, nI_leI (by omega) (by omega)] at c61
                refine lv_iload hx hb dX8_isRing_64 (lv_at hl 3 rfl) ?_
                refine lv_lload_n hx hb dX8_isRing_66 rfl (lv_at hl 1 rfl) ?_
                refine lv_iload hx hb dX8_isRing_67 (lv_at hl 4 rfl) ?_
                refine lv_lshr hx hb dX8_isRing_69 rfl ?_
                refine lv_topl (fun x69 ex69 => ?_)
                refine lv_lconst (v := 1) hx hb dX8_isRing_70 (by decide) ?_
                refine lv_land hx hb dX8_isRing_71 ?_
                refine lv_topl (fun x71 ex71 => ?_)
                refine lv_l2i hx hb dX8_isRing_72 rfl ?_
                refine lv_topi (fun x72 ex72 => ?_)
                refine lv_iadd hx hb dX8_isRing_73 ?_
                refine lv_topi (fun x73 ex73 => ?_)
                refine lv_istore (lv' := [(4, .int x73), (0, .ref (R 0)), (1, .long (lN z)), (3, .int x), (5, .int (nI i))]) hx hb dX8_isRing_74 hl (by decide) rfl (fun ls hl => ?_)
                obtain ⟨x76, ex76⟩ : ∃ y : Int32, y = nI i + (1) := ⟨_, rfl⟩
                refine lv_iinc (v := x76) (lv' := [(5, .int x76), (4, .int x73), (0, .ref (R 0)), (1, .long (lN z)), (3, .int x)]) hx hb dX8_isRing_76 hl (k := 4) rfl (by rw [ex76]; rfl) (by decide) rfl (fun ls hl => ?_)
                have ex76 : x76 = nI (i + 1) := by rw [ex76]; exact nI_1 i
                subst ex76
                refine lv_goto (tgt := 55) hx hb dX8_isRing_79 (by decide) ?_
                exact ih55 (i + 1) x73 ls _ _ (by omega) ⟨by omega, by rw [ex73, ey, ex72, ex71, ex69, nm_bit hz (by omega), nm_tb, lN_i, nI_add]; rfl⟩ hP hD hS (lv_sub hl [2, 3, 4, 1, 0] rfl)
          exact K55 _ 0 0 ls _ _ (Nat.lt_succ_self _) ⟨by omega, rfl⟩ hP hD hS (lv_sub hl [2, 3, 4, 1, 0] rfl)
        · -- 19 not
          rw [g4, nI_leI (by omega) (by omega)] at c19
          refine lv_iload_n hx hb dX8_isRing_22 rfl (lv_at hl 2 rfl) ?_
          refine lv_if_eq (tgt := 41) hx hb dX8_isRing_23 (by decide) (fun c23 => ?_) (fun c23 => ?_)
          · -- 23 taken
            have c23 : ¬ (∀ v, v < i → dg fr to z ne v ≤ 2) := fun h => by rw [ex, if_pos h] at c23; exact absurd c23 (by decide)
            refine lv_iconst (v := 0) hx hb dX8_isRing_41 (by decide) ?_
            refine lv_istore_n (lv' := [(3, .int 0), (0, .ref (R 0)), (1, .long (lN z)), (4, .int (nI i))]) hx hb dX8_isRing_42 rfl hl (by decide) rfl (fun ls hl => ?_)
            obtain ⟨x43, ex43⟩ : ∃ y : Int32, y = nI i + (1) := ⟨_, rfl⟩
            refine lv_iinc (v := x43) (lv' := [(4, .int x43), (3, .int 0), (0, .ref (R 0)), (1, .long (lN z))]) hx hb dX8_isRing_43 hl (k := 3) rfl (by rw [ex43]; rfl) (by decide) rfl (fun ls hl => ?_)
            have ex43 : x43 = nI (i + 1) := by rw [ex43]; exact nI_1 i
            subst ex43
            refine lv_goto (tgt := 13) hx hb dX8_isRing_46 (by decide) ?_
            exact ih13 (i + 1) 0 ls _ _ (by omega) ⟨by omega, by rw [if_neg (fun h => c23 (fun v hv => h v (by omega)))]⟩ hP hD hS (lv_sub hl [2, 3, 1, 0] rfl)
          · -- 23 not
            have c23 : (∀ v, v < i → dg fr to z ne v ≤ 2) := Classical.byContradiction (fun h => by rw [ex, if_neg h] at c23; exact c23 rfl)
            refine lv_aload_n hx hb dX8_isRing_26 rfl (lv_at hl 0 rfl) ?_
            refine lv_lload_n hx hb dX8_isRing_27 rfl (lv_at hl 1 rfl) ?_
            refine lv_iload hx hb dX8_isRing_28 (lv_at hl 3 rfl) ?_
            refine ct_calli hD hS hA (va_runV (As := [.long (lN z), .int (nI i)]) (rest := []) F ((k_X8_endsAt l dC dI cI cJ cZ cII cJJ R I A B nv ne fr to wt z i g hz (by omega)) _) (cwV 2 hts gX8_isRing_X8_endsAt rfl rfl rfl (by decide +kernel) ⟨(Nat.le_of_ble_eq_true rfl), (Nat.le_of_ble_eq_true rfl)⟩) (ct_preV 0 8 hK hN hP hD rfl rfl) rfl rfl hl.1 rfl (lv_room (Nat.le_of_ble_eq_true rfl)) dX8_isRing_30 ⟨(Nat.le_of_ble_eq_true rfl), (Nat.le_of_ble_eq_true rfl)⟩) (fun r30 u30 H locs w30 hP hD hS => ?_)
            obtain ⟨w30, rfl⟩ := w30
            have hdl := dg_le fr to z i ne
            refine lv_iconst (v := 2) hx hb dX8_isRing_33 (by decide) ?_
            refine lv_icmp_gt (tgt := 41) hx hb dX8_isRing_34 (by decide) (fun c34 => ?_) (fun c34 => ?_)
            · -- 34 taken
              rw [w30, show (2 : Int32) = nI 2 from rfl, nI_ltI (by omega) (by omega)] at c34
              have c34 : ¬ dg fr to z ne i ≤ 2 := by omega
              refine lv_iconst (v := 0) hx hb dX8_isRing_41 (by decide) ?_
              refine lv_istore_n (lv' := [(3, .int 0), (0, .ref (R 0)), (1, .long (lN z)), (4, .int (nI i))]) hx hb dX8_isRing_42 rfl hl (by decide) rfl (fun ls hl => ?_)
              obtain ⟨x43, ex43⟩ : ∃ y : Int32, y = nI i + (1) := ⟨_, rfl⟩
              refine lv_iinc (v := x43) (lv' := [(4, .int x43), (3, .int 0), (0, .ref (R 0)), (1, .long (lN z))]) hx hb dX8_isRing_43 hl (k := 3) rfl (by rw [ex43]; rfl) (by decide) rfl (fun ls hl => ?_)
              have ex43 : x43 = nI (i + 1) := by rw [ex43]; exact nI_1 i
              subst ex43
              refine lv_goto (tgt := 13) hx hb dX8_isRing_46 (by decide) ?_
              exact ih13 (i + 1) 0 ls _ _ (by omega) ⟨by omega, by rw [if_neg (fun h => c34 (h i (by omega)))]⟩ hP hD hS (lv_sub hl [2, 3, 1, 0] rfl)
            · -- 34 not
              rw [w30, show (2 : Int32) = nI 2 from rfl, nI_ltI (by omega) (by omega)] at c34
              have c34 : dg fr to z ne i ≤ 2 := by omega
              refine lv_iconst (v := 1) hx hb dX8_isRing_37 (by decide) ?_
              refine lv_goto (tgt := 42) hx hb dX8_isRing_38 (by decide) ?_
              refine lv_istore_n (lv' := [(3, .int 1), (0, .ref (R 0)), (1, .long (lN z)), (4, .int (nI i))]) hx hb dX8_isRing_42 rfl hl (by decide) rfl (fun ls hl => ?_)
              obtain ⟨x43, ex43⟩ : ∃ y : Int32, y = nI i + (1) := ⟨_, rfl⟩
              refine lv_iinc (v := x43) (lv' := [(4, .int x43), (3, .int 1), (0, .ref (R 0)), (1, .long (lN z))]) hx hb dX8_isRing_43 hl (k := 3) rfl (by rw [ex43]; rfl) (by decide) rfl (fun ls hl => ?_)
              have ex43 : x43 = nI (i + 1) := by rw [ex43]; exact nI_1 i
              subst ex43
              refine lv_goto (tgt := 13) hx hb dX8_isRing_46 (by decide) ?_
              exact ih13 (i + 1) 1 ls _ _ (by omega) ⟨by omega, by rw [if_pos (bll_succ.mpr ⟨c23, c34⟩)]⟩ hP hD hS (lv_sub hl [2, 3, 1, 0] rfl)
    exact K13 _ 0 1 ls _ _ (Nat.lt_succ_self _) ⟨by omega, by rw [if_pos (fun v hv => absurd hv (Nat.not_lt_zero _))]⟩ hP hD hS (lv_sub hl [2, 3, 1, 0] rfl)
  · -- 3 not
    rw [lg_cmp_eq] at c3
    have c3 : z = 0 := (pk_lEQ (b := 0) (by omega) (by omega)).mp c3
    refine lv_iconst (v := 0) hx hb dX8_isRing_6 (by decide) ?_
    refine hret 7 ls _ _ 0 (I, A, B) dX8_isRing_7 rfl ?_ hP hD hS
    try dsimp only
    exact ⟨by rw [if_neg (fun h => h.1 c3)], fJ.rf⟩
end
section
set_option maxHeartbeats 4000000 in
set_option maxRecDepth 100000 in
theorem k_X8_isCycle (l : Launch) (dC : Nat → ClassId) (dI : Nat → Nat → Nat) (cI cJ cZ cII cJJ : ClassId) (R : Nat → Nat) (I : Nat → Int32) (A : Nat → Nat → Int32) (B : Nat → Nat → Int64) (nv ne : Nat) (fr to wt : Nat → Nat) (z : Nat) (g : gM nv ne fr to wt I A) (hz : z < 2 ^ 64) : ctI l (dC, dI) (tyL cI cJ cZ cII cJJ) (MW cI cJ cZ R) yX8_isCycle wsX8_isCycle (2, 60) [.ref (R 0), .long (lN z)] (I, A, B) (fun r u => (z < 2 ^ ne → u.1 0 = 0 ∧ fP I A B u ∧ r = (if evn fr to nv ne z then (if rng fr to nv ne z then 2 else 1) else 0)) ∧ (¬ z < 2 ^ ne → u.1 0 = 1 ∧ fP I A B u)) := by
  refine ctI_intro (cc := cX8_isCycle) (maxL := 3) (by decide) rfl (Nat.le_of_ble_eq_true rfl) ?_
  intro p e s m below meth c ls Aa Q F hK hN hP hD hS hA hl hret
  have hx := F.1
  have hb := F.2.1
  have hown : s.vm.findClass RX8 = some m.cls := F.2.2.2.1
  have hts := F.2.2.2.2
  have hinX8 : ∀ w ∈ wsX80, w ∈ wsX8_isCycle := by decide +kernel
  have hl : lv_has ls 3 [(0, .ref (R 0)), (1, .long (lN z))] := hl
  refine lv_aload_n hx hb dX8_isCycle_0 rfl (lv_at hl 0 rfl) ?_
  refine lv_aload_n hx hb dX8_isCycle_1 rfl (lv_at hl 0 rfl) ?_
  refine lv_lload_n hx hb dX8_isCycle_2 rfl (lv_at hl 1 rfl) ?_
  have K14 : ∀ (o : Int32) (ls : Array Slot) (H : Heap) (locs : List Loc), (o = (if z < 2 ^ ne then 0 else 1)) → va_P (dC, dI) vwCl (MW cI cJ cZ R (I, A, B)) H → va_D Aa (MW cI cJ cZ R (I, A, B)) → va_S Aa s.heap H locs → lv_has ls 3 [(0, .ref (R 0)), (1, .long (lN z))] → W p l e (ctR (2, 60)) s m #[.ref (R 0), .long (lN z)] below meth c H locs 0 0 Q (F0 m 14 ls [.int o, .ref (R 0)]) := by
    intro o ls H locs inv14 hP hD hS hl
    refine lv_iconst (v := 0) hx hb dX8_isCycle_14 (by decide) ?_
    refine ct_calli hD hS hA (va_runV (As := [.int o, .int 0]) (rest := []) F ((k_X8_throwing l dC dI cI cJ cZ cII cJJ R I A B o 0) _) (cwV 2 hts gX8_isCycle_X8_throwing rfl rfl rfl (by decide +kernel) ⟨(Nat.le_of_ble_eq_true rfl), (Nat.le_of_ble_eq_true rfl)⟩) (ct_preV 0 8 hK hN hP hD rfl rfl) rfl rfl hl.1 rfl (lv_room (Nat.le_of_ble_eq_true rfl)) dX8_isCycle_15 ⟨(Nat.le_of_ble_eq_true rfl), (Nat.le_of_ble_eq_true rfl)⟩) (fun r15 u15 H locs w15 hP hD hS => ?_)
    obtain ⟨w15, hu15⟩ := w15
    obtain ⟨I15, A15, B15⟩ := u15
    have eI15 := congrArg (fun z => z.1) hu15
    dsimp only at eI15
    have eA15 : A = A15 := (congrArg (fun z => z.2.1) hu15).symm
    subst eA15
    have eB15 : B = B15 := (congrArg (fun z => z.2.2) hu15).symm
    subst eB15
    clear hu15
    refine lv_if_eq (tgt := 23) hx hb dX8_isCycle_18 (by decide) (fun c18 => ?_) (fun c18 => ?_)
    · -- 18 taken
      rw [w15, inv14] at c18
      have hv : z < 2 ^ ne := Classical.byContradiction (fun h => by rw [if_neg h] at c18; exact absurd c18 (by decide))
      have hz2 : z < 2 ^ 62 := pw40 hv g.2.2.1
      have eT : I15 = va_up I 0 0 := by rw [eI15, inv14, if_pos hv]; rfl
      have hfT : fP I A B (I15, A, B) := fP.rf0 eT
      have gT := g.fp hfT
      have e0 : I15 0 = 0 := by rw [eT]; exact up_self
      refine lv_aload_n hx hb dX8_isCycle_23 rfl (lv_at hl 0 rfl) ?_
      refine lv_lload_n hx hb dX8_isCycle_24 rfl (lv_at hl 1 rfl) ?_
      refine ct_calli hD hS hA (va_runV (As := [.long (lN z)]) (rest := []) F ((k_X8_isEven l dC dI cI cJ cZ cII cJJ R I15 A B nv ne fr to wt z gT hz2) _) (cwV 1 hts gX8_isCycle_X8_isEven rfl rfl rfl (by decide +kernel) ⟨(Nat.le_of_ble_eq_true rfl), (Nat.le_of_ble_eq_true rfl)⟩) (ct_preV 0 8 hK hN hP hD rfl rfl) rfl rfl hl.1 rfl (lv_room (Nat.le_of_ble_eq_true rfl)) dX8_isCycle_25 ⟨(Nat.le_of_ble_eq_true rfl), (Nat.le_of_ble_eq_true rfl)⟩) (fun r25 u25 H locs w25 hP hD hS => ?_)
      obtain ⟨w25, rfl⟩ := w25
      refine lv_if_ne (tgt := 35) hx hb dX8_isCycle_28 (by decide) (fun c28 => ?_) (fun c28 => ?_)
      · -- 28 taken
        have c28 : evn fr to nv ne z := Classical.byContradiction (fun h => by rw [w25, if_neg h] at c28; exact c28 rfl)
        refine lv_aload_n hx hb dX8_isCycle_35 rfl (lv_at hl 0 rfl) ?_
        refine lv_lload_n hx hb dX8_isCycle_36 rfl (lv_at hl 1 rfl) ?_
        refine ct_calli hD hS hA (va_runV (As := [.long (lN z)]) (rest := []) F ((k_X8_isRing l dC dI cI cJ cZ cII cJJ R I15 A B nv ne fr to wt z gT hz2) _) (cwV 1 hts gX8_isCycle_X8_isRing rfl rfl rfl (by decide +kernel) ⟨(Nat.le_of_ble_eq_true rfl), (Nat.le_of_ble_eq_true rfl)⟩) (ct_preV 0 8 hK hN hP hD rfl rfl) rfl rfl hl.1 rfl (lv_room (Nat.le_of_ble_eq_true rfl)) dX8_isCycle_37 ⟨(Nat.le_of_ble_eq_true rfl), (Nat.le_of_ble_eq_true rfl)⟩) (fun r37 u37 H locs w37 hP hD hS => ?_)
        obtain ⟨I37, A37, B37⟩ := u37
        refine lv_if_eq (tgt := 47) hx hb dX8_isCycle_40 (by decide) (fun c40 => ?_) (fun c40 => ?_)
        · -- 40 taken
          have c40 : ¬ rng fr to nv ne z := fun h => by rw [w37.1, if_pos h] at c40; exact absurd c40 (by decide)
          have e1 : I37 0 = 0 := by rw [← e0]; exact w37.2.1 0 (by decide)
          refine lv_iconst (v := 1) hx hb dX8_isCycle_47 (by decide) ?_
          refine hret 48 ls _ _ 1 (I37, A37, B37) dX8_isCycle_48 rfl ?_ hP hD hS
          try dsimp only
          exact ⟨fun _ => ⟨e1, hfT.tr w37.2.fp, by rw [if_pos c28, if_neg c40]⟩, fun h => absurd hv h⟩
        · -- 40 not
          have c40 : rng fr to nv ne z := Classical.byContradiction (fun h => by rw [w37.1, if_neg h] at c40; exact c40 rfl)
          have e1 : I37 0 = 0 := by rw [← e0]; exact w37.2.1 0 (by decide)
          refine lv_iconst (v := 2) hx hb dX8_isCycle_43 (by decide) ?_
          refine lv_goto (tgt := 48) hx hb dX8_isCycle_44 (by decide) ?_
          refine hret 48 ls _ _ 2 (I37, A37, B37) dX8_isCycle_48 rfl ?_ hP hD hS
          try dsimp only
          exact ⟨fun _ => ⟨e1, hfT.tr w37.2.fp, by rw [if_pos c28, if_pos c40]⟩, fun h => absurd hv h⟩
      · -- 28 not
        have c28 : ¬ evn fr to nv ne z := fun h => by rw [w25, if_pos h] at c28; exact absurd c28 (by decide)
        refine lv_iconst (v := 0) hx hb dX8_isCycle_31 (by decide) ?_
        refine lv_goto (tgt := 48) hx hb dX8_isCycle_32 (by decide) ?_
        refine hret 48 ls _ _ 0 (I15, A, B) dX8_isCycle_48 rfl ?_ hP hD hS
        try dsimp only
        exact ⟨fun _ => ⟨e0, hfT, by rw [if_neg c28]⟩, fun h => absurd hv h⟩
    · -- 18 not
      rw [w15, inv14] at c18
      have hv : ¬ z < 2 ^ ne := fun h => by rw [if_pos h] at c18; exact c18 rfl
      have eT : I15 = va_up I 0 1 := by rw [eI15, inv14, if_neg hv]; rfl
      refine lv_iconst (v := 0) hx hb dX8_isCycle_21 (by decide) ?_
      refine hret 22 ls _ _ 0 (I15, A, B) dX8_isCycle_22 rfl ?_ hP hD hS
      try dsimp only
      exact ⟨fun h => absurd h hv, fun _ => ⟨by rw [eT]; exact up_self, fP.rf0 eT⟩⟩
  refine ct_calli hD hS hA (va_runV (As := [.long (lN z)]) (rest := [.ref (R 0)]) F ((k_X8_isSet l dC dI cI cJ cZ cII cJJ R I A B (lN z)) _) (cwV 1 hts gX8_isCycle_X8_isSet rfl rfl rfl (by decide +kernel) ⟨(Nat.le_of_ble_eq_true rfl), (Nat.le_of_ble_eq_true rfl)⟩) (ct_preV 0 8 hK hN hP hD rfl rfl) rfl rfl hl.1 rfl (lv_room (Nat.le_of_ble_eq_true rfl)) dX8_isCycle_3 ⟨(Nat.le_of_ble_eq_true rfl), (Nat.le_of_ble_eq_true rfl)⟩) (fun r3 u3 H locs w3 hP hD hS => ?_)
  obtain ⟨w3, rfl⟩ := w3
  refine lv_if_ne (tgt := 13) hx hb dX8_isCycle_6 (by decide) (fun c6 => ?_) (fun c6 => ?_)
  · -- 6 taken
    rw [w3, g.2.2.2.2.1] at c6
    have c6 : z < 2 ^ ne := (nm_set hz g.2.2.1).mp (Classical.byContradiction (fun h => by rw [if_neg h] at c6; exact c6 rfl))
    refine lv_iconst (v := 0) hx hb dX8_isCycle_13 (by decide) ?_
    exact K14 0 ls _ _  (by rw [if_pos c6]) hP hD hS (lv_sub hl [0, 1] rfl)
  · -- 6 not
    rw [w3, g.2.2.2.2.1] at c6
    have c6 : ¬ z < 2 ^ ne := fun h => by rw [if_pos ((nm_set hz g.2.2.1).mpr h)] at c6; exact absurd c6 (by decide)
    refine lv_iconst (v := 1) hx hb dX8_isCycle_9 (by decide) ?_
    refine lv_goto (tgt := 14) hx hb dX8_isCycle_10 (by decide) ?_
    exact K14 1 ls _ _  (by rw [if_neg c6]) hP hD hS (lv_sub hl [0, 1] rfl)
set_option maxHeartbeats 4000000 in
set_option maxRecDepth 100000 in
theorem k_X8_light (l : Launch) (dC : Nat → ClassId) (dI : Nat → Nat → Nat) (cI cJ cZ cII cJJ : ClassId) (R : Nat → Nat) (I : Nat → Int32) (A : Nat → Nat → Int32) (B : Nat → Nat → Int64) (nv ne : Nat) (fr to wt : Nat → Nat) (w : Int64) (g : gM nv ne fr to wt I A) (hd : dmA fr to ne ≤ 14) : ctI l (dC, dI) (tyL cI cJ cZ cII cJJ) (MW cI cJ cZ R) yX8_light wsX8_light (4, 110) [.ref (R 0), .long w] (I, A, B) (fun r u => u.1 0 = 0 ∧ fP I A B u ∧ r = nI (ct0 (2 ^ dmA fr to ne) (fun c => decide (lN (wsum wt (elA fr to ne c) ne) ≤ w)))) := by
  refine ctI_intro (cc := cX8_light) (maxL := 6) (by decide) rfl (Nat.le_of_ble_eq_true rfl) ?_
  intro p e s m below meth c ls Aa Q F hK hN hP hD hS hA hl hret
  have hx := F.1
  have hb := F.2.1
  have hown : s.vm.findClass RX8 = some m.cls := F.2.2.2.1
  have hts := F.2.2.2.2
  have hinX8 : ∀ w ∈ wsX80, w ∈ wsX8_light := by decide +kernel
  have hf58 := hts (.fieldLink RX8 58 "CycleHouseModel" "thrown" "I") (by decide +kernel)
  have hf42 := hts (.fieldLink RX8 42 "CycleHouseModel" "weights" "[J") (by decide +kernel)
  have hl : lv_has ls 6 [(0, .ref (R 0)), (1, .long w)] := hl
  refine lv_aload_n hx hb dX8_light_0 rfl (lv_at hl 0 rfl) ?_
  refine lv_iconst (v := 0) hx hb dX8_light_1 (by decide) ?_
  refine va_put (D := (dC, dI)) (ci := 8) (v := .int 0) (ty := .int) (C := RX8) (T := TX8) (N := 20) hx hb hts hinX8 tyX8 tyX8_ok nmX8 hown hK hP hD hS 0 rfl rfl 0 (by decide) hf58 (fun _ h9 => h9) rfl (by decide +kernel) rfl rfl (Nat.le_of_ble_eq_true rfl) dX8_light_2 (fun H locs hP hD hS => ?_)
  obtain ⟨I2, eI2⟩ : ∃ z : Nat → Int32, z = va_up I 0 0 := ⟨_, rfl⟩
  have hP : va_P (dC, dI) vwCl (MW cI cJ cZ R (I2, A, B)) H := by rw [eI2]; exact hP
  have hD : va_D Aa (MW cI cJ cZ R (I2, A, B)) := by rw [eI2]; exact hD
  have hf2 : fP I A B (I2, A, B) := fP.rf0 eI2
  have e0 : I2 0 = 0 := by rw [eI2]; exact up_self
  refine lv_aload_n hx hb dX8_light_5 rfl (lv_at hl 0 rfl) ?_
  refine ct_calli hD hS hA (va_runV (As := []) (rest := []) F ((k_X8_spread l dC dI cI cJ cZ cII cJJ R I2 A B nv ne fr to wt (g.fp hf2) hd) _) (cwV 0 hts gX8_light_X8_spread rfl rfl rfl (by decide +kernel) ⟨(Nat.le_of_ble_eq_true rfl), (Nat.le_of_ble_eq_true rfl)⟩) (ct_preV 0 8 hK hN hP hD rfl rfl) rfl rfl hl.1 rfl (lv_room (Nat.le_of_ble_eq_true rfl)) dX8_light_6 ⟨(Nat.le_of_ble_eq_true rfl), (Nat.le_of_ble_eq_true rfl)⟩) (fun r6 u6 H locs w6 hP hD hS => ?_)
  obtain ⟨I6, A6, B6⟩ := u6
  have er6 : r6 = nI (2 ^ dmA fr to ne) := w6.1
  subst er6
  have hpw := pw14 hd
  have e1 : I6 0 = 0 := by rw [← e0]; exact w6.2.2.2.1 0 (by decide)
  refine lv_istore_n (lv' := [(3, .int (nI (2 ^ dmA fr to ne))), (0, .ref (R 0)), (1, .long w)]) hx hb dX8_light_9 rfl hl (by decide) rfl (fun ls hl => ?_)
  refine lv_iconst (v := 0) hx hb dX8_light_10 (by decide) ?_
  refine lv_istore (lv' := [(4, .int 0), (3, .int (nI (2 ^ dmA fr to ne))), (0, .ref (R 0)), (1, .long w)]) hx hb dX8_light_11 hl (by decide) rfl (fun ls hl => ?_)
  refine lv_iconst (v := 0) hx hb dX8_light_13 (by decide) ?_
  refine lv_istore (lv' := [(5, .int 0), (4, .int 0), (3, .int (nI (2 ^ dmA fr to ne))), (0, .ref (R 0)), (1, .long w)]) hx hb dX8_light_14 hl (by decide) rfl (fun ls hl => ?_)
  have K16 : ∀ (kn : Nat) (i : Nat) (x : Int32) (ls : Array Slot) (H : Heap) (locs : List Loc), 2 ^ (dmA fr to ne) - i < kn → (i ≤ 2 ^ dmA fr to ne ∧ x = nI (ct0 i (fun c => decide (lN (wsum wt (elA fr to ne c) ne) ≤ w)))) → va_P (dC, dI) vwCl (MW cI cJ cZ R (I6, A6, B6)) H → va_D Aa (MW cI cJ cZ R (I6, A6, B6)) → va_S Aa s.heap H locs → lv_has ls 6 [(0, .ref (R 0)), (1, .long w), (3, .int (nI (2 ^ dmA fr to ne))), (4, .int x), (5, .int (nI i))] → W p l e (ctR (4, 110)) s m #[.ref (R 0), .long w] below meth c H locs 0 0 Q (F0 m 16 ls []) := by
    intro kn
    induction kn with
    | zero => intro i x ls H locs hmu; exact absurd hmu (Nat.not_lt_zero _)
    | succ kn ih16 =>
      intro i x ls H locs mu16 inv16 hP hD hS hl
      obtain ⟨hi, ex⟩ := inv16
      refine lv_iload hx hb dX8_light_16 (lv_at hl 4 rfl) ?_
      refine lv_iload_n hx hb dX8_light_18 rfl (lv_at hl 2 rfl) ?_
      refine lv_icmp_ge (tgt := 50) hx hb dX8_light_19 (by decide) (fun c19 => ?_) (fun c19 => ?_)
      · -- 19 taken
        rw [nI_leI (by omega) (by omega)] at c19
        have hge : i = 2 ^ dmA fr to ne := by omega
        rw [hge] at ex
        refine lv_iload hx hb dX8_light_50 (lv_at hl 3 rfl) ?_
        refine hret 52 ls _ _ x (I6, A6, B6) dX8_light_52 rfl ?_ hP hD hS
        try dsimp only
        exact ⟨e1, hf2.tr w6.2.2.2.fp, ex⟩
      · -- 19 not
        rw [nI_leI (by omega) (by omega)] at c19
        have icl : (nI i).toNatClampNeg = i := nI_clamp (by omega)
        refine lv_iload hx hb dX8_light_22 (lv_at hl 3 rfl) ?_
        refine lv_aload_n hx hb dX8_light_24 rfl (lv_at hl 0 rfl) ?_
        refine va_get (D := (dC, dI)) (ci := 8) (v := .ref (R 14)) (C := RX8) (T := TX8) (N := 20) hx hb hts hinX8 hown hK hP 0 rfl rfl 14 (by decide) hf42 (fun _ h9 => h9) rfl dX8_light_25 ?_
        refine lv_iload hx hb dX8_light_28 (lv_at hl 4 rfl) ?_
        have h30 : vp_in (nI i) 16384 := vp_in_nI (by omega) (by omega)
        refine va_lald hx hb hK hP 10 1 rfl rfl h30 dX8_light_30 ?_
        refine lv_topl (fun x30 ex30 => ?_)
        have ex30 : x30 = B6 14 (nI i).toNatClampNeg := ex30
        have ex30 : x30 = lN (wsum wt (elA fr to ne i) ne) := by rw [ex30, icl]; exact (w6.2.1 i (by omega)).2
        refine lv_lload_n hx hb dX8_light_31 rfl (lv_at hl 1 rfl) ?_
        refine W.lcmp hx hb dX8_light_32 ?_
        refine lv_if_gt (tgt := 40) hx hb dX8_light_33 (by decide) (fun c33 => ?_) (fun c33 => ?_)
        · -- 33 taken
          rw [lg_cmp_gt] at c33
          rw [ex30] at c33
          refine lv_iconst (v := 0) hx hb dX8_light_40 (by decide) ?_
          refine lv_iadd hx hb dX8_light_41 ?_
          refine lv_topi (fun x41 ex41 => ?_)
          refine lv_istore (lv' := [(4, .int x41), (0, .ref (R 0)), (1, .long w), (3, .int (nI (2 ^ dmA fr to ne))), (5, .int (nI i))]) hx hb dX8_light_42 hl (by decide) rfl (fun ls hl => ?_)
          obtain ⟨x44, ex44⟩ : ∃ y : Int32, y = nI i + (1) := ⟨_, rfl⟩
          refine lv_iinc (v := x44) (lv' := [(5, .int x44), (4, .int x41), (0, .ref (R 0)), (1, .long w), (3, .int (nI (2 ^ dmA fr to ne)))]) hx hb dX8_light_44 hl (k := 4) rfl (by rw [ex44]; rfl) (by decide) rfl (fun ls hl => ?_)
          have ex44 : x44 = nI (i + 1) := by rw [ex44]; exact nI_1 i
          subst ex44
          refine lv_goto (tgt := 16) hx hb dX8_light_47 (by decide) ?_
          exact ih16 (i + 1) x41 ls _ _ (by omega) ⟨by omega, by rw [ex41, ex, ct0_f (decide_eq_false (Int64.not_le.mpr c33))]; exact Int32.add_zero _⟩ hP hD hS (lv_sub hl [2, 3, 4, 1, 0] rfl)
        · -- 33 not
          rw [lg_cmp_gt] at c33
          rw [ex30] at c33
          refine lv_iconst (v := 1) hx hb dX8_light_36 (by decide) ?_
          refine lv_goto (tgt := 41) hx hb dX8_light_37 (by decide) ?_
          refine lv_iadd hx hb dX8_light_41 ?_
          refine lv_topi (fun x41 ex41 => ?_)
          refine lv_istore (lv' := [(4, .int x41), (0, .ref (R 0)), (1, .long w), (3, .int (nI (2 ^ dmA fr to ne))), (5, .int (nI i))]) hx hb dX8_light_42 hl (by decide) rfl (fun ls hl => ?_)
          obtain ⟨x44, ex44⟩ : ∃ y : Int32, y = nI i + (1) := ⟨_, rfl⟩
          refine lv_iinc (v := x44) (lv' := [(5, .int x44), (4, .int x41), (0, .ref (R 0)), (1, .long w), (3, .int (nI (2 ^ dmA fr to ne)))]) hx hb dX8_light_44 hl (k := 4) rfl (by rw [ex44]; rfl) (by decide) rfl (fun ls hl => ?_)
          have ex44 : x44 = nI (i + 1) := by rw [ex44]; exact nI_1 i
          subst ex44
          refine lv_goto (tgt := 16) hx hb dX8_light_47 (by decide) ?_
          exact ih16 (i + 1) x41 ls _ _ (by omega) ⟨by omega, by rw [ex41, ex, ct0_t (decide_eq_true (Int64.not_lt.mp c33))]; exact nI_1 _⟩ hP hD hS (lv_sub hl [2, 3, 4, 1, 0] rfl)
  exact K16 _ 0 0 ls _ _ (Nat.lt_succ_self _) ⟨Nat.zero_le _, rfl⟩ hP hD hS (lv_sub hl [3, 4, 2, 1, 0] rfl)
set_option maxHeartbeats 4000000 in
set_option maxRecDepth 100000 in
theorem k_X8_cycles (l : Launch) (dC : Nat → ClassId) (dI : Nat → Nat → Nat) (cI cJ cZ cII cJJ : ClassId) (R : Nat → Nat) (I : Nat → Int32) (A : Nat → Nat → Int32) (B : Nat → Nat → Int64) (nv ne : Nat) (fr to wt : Nat → Nat) (g : gM nv ne fr to wt I A) (hd : dmA fr to ne ≤ 14) : ctI l (dC, dI) (tyL cI cJ cZ cII cJJ) (MW cI cJ cZ R) yX8_cycles wsX8_cycles (4, 110) [.ref (R 0)] (I, A, B) (fun r u => u.1 0 = 0 ∧ fP I A B u ∧ r = nI (ct0 (2 ^ dmA fr to ne) (fun c => decide (rng fr to nv ne (elA fr to ne c))))) := by
  refine ctI_intro (cc := cX8_cycles) (maxL := 4) (by decide) rfl (Nat.le_of_ble_eq_true rfl) ?_
  intro p e s m below meth c ls Aa Q F hK hN hP hD hS hA hl hret
  have hx := F.1
  have hb := F.2.1
  have hown : s.vm.findClass RX8 = some m.cls := F.2.2.2.1
  have hts := F.2.2.2.2
  have hinX8 : ∀ w ∈ wsX80, w ∈ wsX8_cycles := by decide +kernel
  have hf58 := hts (.fieldLink RX8 58 "CycleHouseModel" "thrown" "I") (by decide +kernel)
  have hf39 := hts (.fieldLink RX8 39 "CycleHouseModel" "elements" "[J") (by decide +kernel)
  have hl : lv_has ls 4 [(0, .ref (R 0))] := hl
  refine lv_aload_n hx hb dX8_cycles_0 rfl (lv_at hl 0 rfl) ?_
  refine lv_iconst (v := 0) hx hb dX8_cycles_1 (by decide) ?_
  refine va_put (D := (dC, dI)) (ci := 8) (v := .int 0) (ty := .int) (C := RX8) (T := TX8) (N := 20) hx hb hts hinX8 tyX8 tyX8_ok nmX8 hown hK hP hD hS 0 rfl rfl 0 (by decide) hf58 (fun _ h9 => h9) rfl (by decide +kernel) rfl rfl (Nat.le_of_ble_eq_true rfl) dX8_cycles_2 (fun H locs hP hD hS => ?_)
  obtain ⟨I2, eI2⟩ : ∃ z : Nat → Int32, z = va_up I 0 0 := ⟨_, rfl⟩
  have hP : va_P (dC, dI) vwCl (MW cI cJ cZ R (I2, A, B)) H := by rw [eI2]; exact hP
  have hD : va_D Aa (MW cI cJ cZ R (I2, A, B)) := by rw [eI2]; exact hD
  have hf2 : fP I A B (I2, A, B) := fP.rf0 eI2
  have e0 : I2 0 = 0 := by rw [eI2]; exact up_self
  refine lv_aload_n hx hb dX8_cycles_5 rfl (lv_at hl 0 rfl) ?_
  refine ct_calli hD hS hA (va_runV (As := []) (rest := []) F ((k_X8_spread l dC dI cI cJ cZ cII cJJ R I2 A B nv ne fr to wt (g.fp hf2) hd) _) (cwV 0 hts gX8_cycles_X8_spread rfl rfl rfl (by decide +kernel) ⟨(Nat.le_of_ble_eq_true rfl), (Nat.le_of_ble_eq_true rfl)⟩) (ct_preV 0 8 hK hN hP hD rfl rfl) rfl rfl hl.1 rfl (lv_room (Nat.le_of_ble_eq_true rfl)) dX8_cycles_6 ⟨(Nat.le_of_ble_eq_true rfl), (Nat.le_of_ble_eq_true rfl)⟩) (fun r6 u6 H locs w6 hP hD hS => ?_)
  obtain ⟨I6, A6, B6⟩ := u6
  have er6 : r6 = nI (2 ^ dmA fr to ne) := w6.1
  subst er6
  have hpw := pw14 hd
  have e1 : I6 0 = 0 := by rw [← e0]; exact w6.2.2.2.1 0 (by decide)
  refine lv_istore_n (lv' := [(1, .int (nI (2 ^ dmA fr to ne))), (0, .ref (R 0))]) hx hb dX8_cycles_9 rfl hl (by decide) rfl (fun ls hl => ?_)
  refine lv_iconst (v := 0) hx hb dX8_cycles_10 (by decide) ?_
  refine lv_istore_n (lv' := [(2, .int 0), (1, .int (nI (2 ^ dmA fr to ne))), (0, .ref (R 0))]) hx hb dX8_cycles_11 rfl hl (by decide) rfl (fun ls hl => ?_)
  refine lv_iconst (v := 1) hx hb dX8_cycles_12 (by decide) ?_
  refine lv_istore_n (lv' := [(3, .int 1), (2, .int 0), (1, .int (nI (2 ^ dmA fr to ne))), (0, .ref (R 0))]) hx hb dX8_cycles_13 rfl hl (by decide) rfl (fun ls hl => ?_)
  have K14 : ∀ (kn : Nat) (i : Nat) (x : Int32) (I_14 : Nat → Int32) (A_14 : Nat → Nat → Int32) (B_14 : Nat → Nat → Int64) (ls : Array Slot) (H : Heap) (locs : List Loc), 2 ^ (dmA fr to ne) - i < kn → (1 ≤ i ∧ i ≤ 2 ^ dmA fr to ne ∧ x = nI (ct0 i (fun c => decide (rng fr to nv ne (elA fr to ne c)))) ∧ fP I A B (I_14, A_14, B_14) ∧ I_14 0 = 0 ∧ ∀ c, c < 2 ^ dmA fr to ne → B_14 13 c = lN (elA fr to ne c) ∧ B_14 14 c = lN (wsum wt (elA fr to ne c) ne)) → va_P (dC, dI) vwCl (MW cI cJ cZ R (I_14, A_14, B_14)) H → va_D Aa (MW cI cJ cZ R (I_14, A_14, B_14)) → va_S Aa s.heap H locs → lv_has ls 4 [(0, .ref (R 0)), (1, .int (nI (2 ^ dmA fr to ne))), (2, .int x), (3, .int (nI i))] → W p l e (ctR (4, 110)) s m #[.ref (R 0)] below meth c H locs 0 0 Q (F0 m 14 ls []) := by
    intro kn
    induction kn with
    | zero => intro i x I_14 A_14 B_14 ls H locs hmu; exact absurd hmu (Nat.not_lt_zero _)
    | succ kn ih14 =>
      intro i x I_14 A_14 B_14 ls H locs mu14 inv14 hP hD hS hl
      obtain ⟨h1, hi, ex, hf, e0, hel⟩ := inv14
      refine lv_iload_n hx hb dX8_cycles_14 rfl (lv_at hl 3 rfl) ?_
      refine lv_iload_n hx hb dX8_cycles_15 rfl (lv_at hl 1 rfl) ?_
      refine lv_icmp_ge (tgt := 46) hx hb dX8_cycles_16 (by decide) (fun c16 => ?_) (fun c16 => ?_)
      · -- 16 taken
        rw [nI_leI (by omega) (by omega)] at c16
        have hge : i = 2 ^ dmA fr to ne := by omega
        rw [hge] at ex
        refine lv_iload_n hx hb dX8_cycles_46 rfl (lv_at hl 2 rfl) ?_
        refine hret 47 ls _ _ x (I_14, A_14, B_14) dX8_cycles_47 rfl ?_ hP hD hS
        try dsimp only
        exact ⟨e0, hf, ex⟩
      · -- 16 not
        rw [nI_leI (by omega) (by omega)] at c16
        have icl : (nI i).toNatClampNeg = i := nI_clamp (by omega)
        refine lv_iload_n hx hb dX8_cycles_19 rfl (lv_at hl 2 rfl) ?_
        refine lv_aload_n hx hb dX8_cycles_20 rfl (lv_at hl 0 rfl) ?_
        refine lv_aload_n hx hb dX8_cycles_21 rfl (lv_at hl 0 rfl) ?_
        refine va_get (D := (dC, dI)) (ci := 8) (v := .ref (R 13)) (C := RX8) (T := TX8) (N := 20) hx hb hts hinX8 hown hK hP 0 rfl rfl 13 (by decide) hf39 (fun _ h9 => h9) rfl dX8_cycles_22 ?_
        refine lv_iload_n hx hb dX8_cycles_25 rfl (lv_at hl 3 rfl) ?_
        have h26 : vp_in (nI i) 16384 := vp_in_nI (by omega) (by omega)
        refine va_lald hx hb hK hP 9 1 rfl rfl h26 dX8_cycles_26 ?_
        refine lv_topl (fun x26 ex26 => ?_)
        have ex26 : x26 = B_14 13 (nI i).toNatClampNeg := ex26
        have ex26 : x26 = lN (elA fr to ne i) := by rw [ex26, icl]; exact (hel i (by omega)).1
        subst ex26
        refine ct_calli hD hS hA (va_runV (As := [.long (lN (elA fr to ne i))]) (rest := [.int x]) F ((k_X8_isRing l dC dI cI cJ cZ cII cJJ R I_14 A_14 B_14 nv ne fr to wt (elA fr to ne i) (g.fp hf) (pw40 (elA_lt (by have := g.2.2.1; omega) g.en (Nat.le_refl _)) g.2.2.1)) _) (cwV 1 hts gX8_cycles_X8_isRing rfl rfl rfl (by decide +kernel) ⟨(Nat.le_of_ble_eq_true rfl), (Nat.le_of_ble_eq_true rfl)⟩) (ct_preV 0 8 hK hN hP hD rfl rfl) rfl rfl hl.1 rfl (lv_room (Nat.le_of_ble_eq_true rfl)) dX8_cycles_27 ⟨(Nat.le_of_ble_eq_true rfl), (Nat.le_of_ble_eq_true rfl)⟩) (fun r27 u27 H locs w27 hP hD hS => ?_)
        obtain ⟨I27, A27, B27⟩ := u27
        refine lv_if_eq (tgt := 37) hx hb dX8_cycles_30 (by decide) (fun c30 => ?_) (fun c30 => ?_)
        · -- 30 taken
          have c30 : ¬ rng fr to nv ne (elA fr to ne i) := fun h => by rw [w27.1, if_pos h] at c30; exact absurd c30 (by decide)
          refine lv_iconst (v := 0) hx hb dX8_cycles_37 (by decide) ?_
          refine lv_iadd hx hb dX8_cycles_38 ?_
          refine lv_topi (fun x38 ex38 => ?_)
          refine lv_istore_n (lv' := [(2, .int x38), (0, .ref (R 0)), (1, .int (nI (2 ^ dmA fr to ne))), (3, .int (nI i))]) hx hb dX8_cycles_39 rfl hl (by decide) rfl (fun ls hl => ?_)
          obtain ⟨x40, ex40⟩ : ∃ y : Int32, y = nI i + (1) := ⟨_, rfl⟩
          refine lv_iinc (v := x40) (lv' := [(3, .int x40), (2, .int x38), (0, .ref (R 0)), (1, .int (nI (2 ^ dmA fr to ne)))]) hx hb dX8_cycles_40 hl (k := 3) rfl (by rw [ex40]; rfl) (by decide) rfl (fun ls hl => ?_)
          have ex40 : x40 = nI (i + 1) := by rw [ex40]; exact nI_1 i
          subst ex40
          refine lv_goto (tgt := 14) hx hb dX8_cycles_43 (by decide) ?_
          exact ih14 (i + 1) x38 I27 A27 B27 ls _ _ (by omega) ⟨by omega, by omega, by rw [ex38, ex, ct0_f (decide_eq_false c30)]; exact Int32.add_zero _, hf.tr w27.2.fp, (w27.2.1 0 (by decide)).trans e0, by rw [show B27 13 = B_14 13 from w27.2.2.2 13 (by decide) (by decide), show B27 14 = B_14 14 from w27.2.2.2 14 (by decide) (by decide)]; exact hel⟩ hP hD hS (lv_sub hl [2, 3, 1, 0] rfl)
        · -- 30 not
          have c30 : rng fr to nv ne (elA fr to ne i) := Classical.byContradiction (fun h => by rw [w27.1, if_neg h] at c30; exact c30 rfl)
          refine lv_iconst (v := 1) hx hb dX8_cycles_33 (by decide) ?_
          refine lv_goto (tgt := 38) hx hb dX8_cycles_34 (by decide) ?_
          refine lv_iadd hx hb dX8_cycles_38 ?_
          refine lv_topi (fun x38 ex38 => ?_)
          refine lv_istore_n (lv' := [(2, .int x38), (0, .ref (R 0)), (1, .int (nI (2 ^ dmA fr to ne))), (3, .int (nI i))]) hx hb dX8_cycles_39 rfl hl (by decide) rfl (fun ls hl => ?_)
          obtain ⟨x40, ex40⟩ : ∃ y : Int32, y = nI i + (1) := ⟨_, rfl⟩
          refine lv_iinc (v := x40) (lv' := [(3, .int x40), (2, .int x38), (0, .ref (R 0)), (1, .int (nI (2 ^ dmA fr to ne)))]) hx hb dX8_cycles_40 hl (k := 3) rfl (by rw [ex40]; rfl) (by decide) rfl (fun ls hl => ?_)
          have ex40 : x40 = nI (i + 1) := by rw [ex40]; exact nI_1 i
          subst ex40
          refine lv_goto (tgt := 14) hx hb dX8_cycles_43 (by decide) ?_
          exact ih14 (i + 1) x38 I27 A27 B27 ls _ _ (by omega) ⟨by omega, by omega, by rw [ex38, ex, ct0_t (decide_eq_true c30)]; exact nI_1 _, hf.tr w27.2.fp, (w27.2.1 0 (by decide)).trans e0, by rw [show B27 13 = B_14 13 from w27.2.2.2 13 (by decide) (by decide), show B27 14 = B_14 14 from w27.2.2.2 14 (by decide) (by decide)]; exact hel⟩ hP hD hS (lv_sub hl [2, 3, 1, 0] rfl)
  exact K14 _ 1 0 I6 A6 B6 ls _ _ (Nat.lt_succ_self _) ⟨Nat.le_refl 1, Nat.two_pow_pos _, by rw [ct0_f (decide_eq_false (fun h => h.1 (cb_0 _ _)))]; rfl, hf2.tr w6.2.2.2.fp, e1, w6.2.1⟩ hP hD hS (lv_sub hl [3, 2, 1, 0] rfl)
end
section
set_option maxHeartbeats 4000000 in
set_option maxRecDepth 100000 in
theorem k_X8_through (l : Launch) (dC : Nat → ClassId) (dI : Nat → Nat → Nat) (cI cJ cZ cII cJJ : ClassId) (R : Nat → Nat) (I : Nat → Int32) (A : Nat → Nat → Int32) (B : Nat → Nat → Int64) (nv ne : Nat) (fr to wt : Nat → Nat) (ed : Int32) (g : gM nv ne fr to wt I A) (hd : dmA fr to ne ≤ 14) : ctL l (dC, dI) (tyL cI cJ cZ cII cJJ) (MW cI cJ cZ R) yX8_through wsX8_through (4, 110) [.ref (R 0), .int ed] (I, A, B) (fun r u => ((ed < 0 ∨ nI ne ≤ ed) → u.1 0 = 1 ∧ fP I A B u) ∧ ∀ k, k < ne → ed = nI k → u.1 0 = 0 ∧ fP I A B u ∧ thI (fun c => (elA fr to ne c).testBit k) (fun c => wsum wt (elA fr to ne c) ne) (2 ^ dmA fr to ne) r) := by
  refine ctL_intro (cc := cX8_through) (maxL := 6) (by decide) rfl (Nat.le_of_ble_eq_true rfl) ?_
  intro p e s m below meth c ls Aa Q F hK hN hP hD hS hA hl hret
  have hx := F.1
  have hb := F.2.1
  have hown : s.vm.findClass RX8 = some m.cls := F.2.2.2.1
  have hts := F.2.2.2.2
  have hinX8 : ∀ w ∈ wsX80, w ∈ wsX8_through := by decide +kernel
  have hf61 := hts (.fieldLink RX8 61 "CycleHouseModel" "m" "I") (by decide +kernel)
  have hf39 := hts (.fieldLink RX8 39 "CycleHouseModel" "elements" "[J") (by decide +kernel)
  have hf42 := hts (.fieldLink RX8 42 "CycleHouseModel" "weights" "[J") (by decide +kernel)
  have hl : lv_has ls 6 [(0, .ref (R 0)), (1, .int ed)] := hl
  obtain ⟨g1, g2, g3, g4, g5, g6⟩ := id g
  refine lv_aload_n hx hb dX8_through_0 rfl (lv_at hl 0 rfl) ?_
  have K18 : ∀ (o : Int32) (ls : Array Slot) (H : Heap) (locs : List Loc), ((o = 1 ∧ (ed < 0 ∨ nI ne ≤ ed)) ∨ (o = 0 ∧ ∃ k, k < ne ∧ ed = nI k)) → va_P (dC, dI) vwCl (MW cI cJ cZ R (I, A, B)) H → va_D Aa (MW cI cJ cZ R (I, A, B)) → va_S Aa s.heap H locs → lv_has ls 6 [(0, .ref (R 0)), (1, .int ed)] → W p l e (ctR (4, 110)) s m #[.ref (R 0), .int ed] below meth c H locs 0 0 Q (F0 m 18 ls [.int o, .ref (R 0)]) := by
    intro o ls H locs inv18 hP hD hS hl
    refine lv_iconst (v := 0) hx hb dX8_through_18 (by decide) ?_
    refine ct_calli hD hS hA (va_runV (As := [.int o, .int 0]) (rest := []) F ((k_X8_throwing l dC dI cI cJ cZ cII cJJ R I A B o 0) _) (cwV 2 hts gX8_through_X8_throwing rfl rfl rfl (by decide +kernel) ⟨(Nat.le_of_ble_eq_true rfl), (Nat.le_of_ble_eq_true rfl)⟩) (ct_preV 0 8 hK hN hP hD rfl rfl) rfl rfl hl.1 rfl (lv_room (Nat.le_of_ble_eq_true rfl)) dX8_through_19 ⟨(Nat.le_of_ble_eq_true rfl), (Nat.le_of_ble_eq_true rfl)⟩) (fun r19 u19 H locs w19 hP hD hS => ?_)
    obtain ⟨w19, hu19⟩ := w19
    obtain ⟨I19, A19, B19⟩ := u19
    have eI19 := congrArg (fun z => z.1) hu19
    dsimp only at eI19
    have eA19 : A = A19 := (congrArg (fun z => z.2.1) hu19).symm
    subst eA19
    have eB19 : B = B19 := (congrArg (fun z => z.2.2) hu19).symm
    subst eB19
    clear hu19
    refine lv_if_eq (tgt := 27) hx hb dX8_through_22 (by decide) (fun c22 => ?_) (fun c22 => ?_)
    · -- 22 taken
      have hv : ∃ k, k < ne ∧ ed = nI k := inv18.elim (fun h => by rw [w19, h.1] at c22; exact absurd c22 (by decide)) (fun h => h.2)
      have eo : o = 0 := inv18.elim (fun h => by rw [w19, h.1] at c22; exact absurd c22 (by decide)) (fun h => h.1)
      obtain ⟨k, hk, eed⟩ := hv
      have eT : I19 = va_up I 0 0 := by rw [eI19, eo]; rfl
      have hfT : fP I A B (I19, A, B) := fP.rf0 eT
      have gT := g.fp hfT
      have e0 : I19 0 = 0 := by rw [eT]; exact up_self
      refine lv_aload_n hx hb dX8_through_27 rfl (lv_at hl 0 rfl) ?_
      refine ct_calli hD hS hA (va_runV (As := []) (rest := []) F ((k_X8_spread l dC dI cI cJ cZ cII cJJ R I19 A B nv ne fr to wt gT hd) _) (cwV 0 hts gX8_through_X8_spread rfl rfl rfl (by decide +kernel) ⟨(Nat.le_of_ble_eq_true rfl), (Nat.le_of_ble_eq_true rfl)⟩) (ct_preV 0 8 hK hN hP hD rfl rfl) rfl rfl hl.1 rfl (lv_room (Nat.le_of_ble_eq_true rfl)) dX8_through_28 ⟨(Nat.le_of_ble_eq_true rfl), (Nat.le_of_ble_eq_true rfl)⟩) (fun r28 u28 H locs w28 hP hD hS => ?_)
      obtain ⟨I28, A28, B28⟩ := u28
      have er28 : r28 = nI (2 ^ dmA fr to ne) := w28.1
      subst er28
      have hpw := pw14 hd
      have e1 : I28 0 = 0 := by rw [← e0]; exact w28.2.2.2.1 0 (by decide)
      have hel := w28.2.1
      have hwl : ∀ c, (fun c => wsum wt (elA fr to ne c) ne) c < 2 ^ 63 := fun c => Nat.lt_trans (g.wl _) (by decide)
      have hlt : ∀ c, elA fr to ne c < 2 ^ 62 := fun c => pw40 (elA_lt (by omega) g.en (Nat.le_refl _)) g3
      refine lv_istore_n (lv' := [(2, .int (nI (2 ^ dmA fr to ne))), (0, .ref (R 0)), (1, .int ed)]) hx hb dX8_through_31 rfl hl (by decide) rfl (fun ls hl => ?_)
      refine lv_ldc2 (v := (-1)) hx hb hown (hts (.constantLong RX8 111 (-1)) (by decide +kernel)) dX8_through_32 ?_
      refine lv_lstore_n (lv' := [(3, .long ((-1))), (2, .int (nI (2 ^ dmA fr to ne))), (0, .ref (R 0)), (1, .int ed)]) hx hb dX8_through_35 rfl hl (by decide) rfl (fun ls hl => ?_)
      refine lv_iconst (v := 1) hx hb dX8_through_36 (by decide) ?_
      refine lv_istore (lv' := [(5, .int 1), (3, .long ((-1))), (2, .int (nI (2 ^ dmA fr to ne))), (0, .ref (R 0)), (1, .int ed)]) hx hb dX8_through_37 hl (by decide) rfl (fun ls hl => ?_)
      have K39 : ∀ (kn : Nat) (i : Nat) (y : Int64) (ls : Array Slot) (H : Heap) (locs : List Loc), 2 ^ (dmA fr to ne) - i < kn → (1 ≤ i ∧ i ≤ 2 ^ dmA fr to ne ∧ thI (fun c => (elA fr to ne c).testBit k) (fun c => wsum wt (elA fr to ne c) ne) i y) → va_P (dC, dI) vwCl (MW cI cJ cZ R (I28, A28, B28)) H → va_D Aa (MW cI cJ cZ R (I28, A28, B28)) → va_S Aa s.heap H locs → lv_has ls 6 [(0, .ref (R 0)), (1, .int ed), (2, .int (nI (2 ^ dmA fr to ne))), (3, .long y), (5, .int (nI i))] → W p l e (ctR (4, 110)) s m #[.ref (R 0), .int ed] below meth c H locs 0 0 Q (F0 m 39 ls []) := by
        intro kn
        induction kn with
        | zero => intro i y ls H locs hmu; exact absurd hmu (Nat.not_lt_zero _)
        | succ kn ih39 =>
          intro i y ls H locs mu39 inv39 hP hD hS hl
          obtain ⟨h1, hi, hth⟩ := inv39
          refine lv_iload hx hb dX8_through_39 (lv_at hl 4 rfl) ?_
          refine lv_iload_n hx hb dX8_through_41 rfl (lv_at hl 2 rfl) ?_
          refine lv_icmp_ge (tgt := 93) hx hb dX8_through_42 (by decide) (fun c42 => ?_) (fun c42 => ?_)
          · -- 42 taken
            rw [nI_leI (by omega) (by omega)] at c42
            have hge : i = 2 ^ dmA fr to ne := by omega
            rw [hge] at hth
            refine lv_lload_n hx hb dX8_through_93 rfl (lv_at hl 3 rfl) ?_
            refine hret 94 ls _ _ y (I28, A28, B28) dX8_through_94 ?_ hP hD hS
            try dsimp only
            exact ⟨fun h => by rw [eed] at h; exact h.elim (fun h => absurd h (nI_pos (by omega))) (fun h => absurd ((nI_leI (by omega) (by omega)).mp h) (by omega)), fun k2 hk2 he => by rw [eed] at he; have he : k = k2 := (nI_eq (by omega) (by omega)).mp he; subst he; exact ⟨e1, hfT.tr w28.2.2.2.fp, hth⟩⟩
          · -- 42 not
            rw [nI_leI (by omega) (by omega)] at c42
            have icl : (nI i).toNatClampNeg = i := nI_clamp (by omega)
            have iin : vp_in (nI i) 16384 := vp_in_nI (by omega) (by omega)
            refine lv_aload_n hx hb dX8_through_45 rfl (lv_at hl 0 rfl) ?_
            refine va_get (D := (dC, dI)) (ci := 8) (v := .ref (R 13)) (C := RX8) (T := TX8) (N := 20) hx hb hts hinX8 hown hK hP 0 rfl rfl 13 (by decide) hf39 (fun _ h9 => h9) rfl dX8_through_46 ?_
            refine lv_iload hx hb dX8_through_49 (lv_at hl 4 rfl) ?_
            have h51 : vp_in (nI i) 16384 := iin
            refine va_lald hx hb hK hP 9 1 rfl rfl h51 dX8_through_51 ?_
            refine lv_topl (fun x51 ex51 => ?_)
            have ex51 : x51 = B28 13 (nI i).toNatClampNeg := ex51
            have ex51 : x51 = lN (elA fr to ne i) := by rw [ex51, icl]; exact (hel i (by omega)).1
            refine lv_iload_n hx hb dX8_through_52 rfl (lv_at hl 1 rfl) ?_
            refine lv_lshr hx hb dX8_through_53 rfl ?_
            refine lv_topl (fun x53 ex53 => ?_)
            refine lv_lconst (v := 1) hx hb dX8_through_54 (by decide) ?_
            refine lv_land hx hb dX8_through_55 ?_
            refine lv_topl (fun x55 ex55 => ?_)
            refine lv_lconst (v := 1) hx hb dX8_through_56 (by decide) ?_
            refine W.lcmp hx hb dX8_through_57 ?_
            refine lv_if_ne (tgt := 87) hx hb dX8_through_58 (by decide) (fun c58 => ?_) (fun c58 => ?_)
            · -- 58 taken
              rw [lg_cmp_eq] at c58
              rw [ex55, ex53, ex51, eed, nm_bit1 (hlt i) (by omega)] at c58
              obtain ⟨x87, ex87⟩ : ∃ y : Int32, y = nI i + (1) := ⟨_, rfl⟩
              refine lv_iinc (v := x87) (lv' := [(5, .int x87), (0, .ref (R 0)), (1, .int ed), (2, .int (nI (2 ^ dmA fr to ne))), (3, .long y)]) hx hb dX8_through_87 hl (k := 4) rfl (by rw [ex87]; rfl) (by decide) rfl (fun ls hl => ?_)
              have ex87 : x87 = nI (i + 1) := by rw [ex87]; exact nI_1 i
              subst ex87
              refine lv_goto (tgt := 39) hx hb dX8_through_90 (by decide) ?_
              exact ih39 (i + 1) y ls _ _ (by omega) ⟨by omega, by omega, thI_skip hth (bool_f c58)⟩ hP hD hS (lv_sub hl [1, 2, 3, 4, 0] rfl)
            · -- 58 not
              rw [lg_cmp_eq] at c58
              rw [ex55, ex53, ex51, eed, nm_bit1 (hlt i) (by omega)] at c58
              refine lv_lload_n hx hb dX8_through_61 rfl (lv_at hl 3 rfl) ?_
              refine lv_lconst (v := 0) hx hb dX8_through_62 (by decide) ?_
              refine W.lcmp hx hb dX8_through_63 ?_
              refine lv_if_lt (tgt := 79) hx hb dX8_through_64 (by decide) (fun c64 => ?_) (fun c64 => ?_)
              · -- 64 taken
                rw [lg_cmp_lt] at c64
                refine lv_aload_n hx hb dX8_through_79 rfl (lv_at hl 0 rfl) ?_
                refine va_get (D := (dC, dI)) (ci := 8) (v := .ref (R 14)) (C := RX8) (T := TX8) (N := 20) hx hb hts hinX8 hown hK hP 0 rfl rfl 14 (by decide) hf42 (fun _ h9 => h9) rfl dX8_through_80 ?_
                refine lv_iload hx hb dX8_through_83 (lv_at hl 4 rfl) ?_
                have h85 : vp_in (nI i) 16384 := iin
                refine va_lald hx hb hK hP 10 1 rfl rfl h85 dX8_through_85 ?_
                refine lv_topl (fun x85 ex85 => ?_)
                have ex85 : x85 = B28 14 (nI i).toNatClampNeg := ex85
                have ex85 : x85 = lN (wsum wt (elA fr to ne i) ne) := by rw [ex85, icl]; exact (hel i (by omega)).2
                subst ex85
                refine lv_lstore_n (lv' := [(3, .long (lN (wsum wt (elA fr to ne i) ne))), (0, .ref (R 0)), (1, .int ed), (2, .int (nI (2 ^ dmA fr to ne))), (5, .int (nI i))]) hx hb dX8_through_86 rfl hl (by decide) rfl (fun ls hl => ?_)
                obtain ⟨x87, ex87⟩ : ∃ y : Int32, y = nI i + (1) := ⟨_, rfl⟩
                refine lv_iinc (v := x87) (lv' := [(5, .int x87), (3, .long (lN (wsum wt (elA fr to ne i) ne))), (0, .ref (R 0)), (1, .int ed), (2, .int (nI (2 ^ dmA fr to ne)))]) hx hb dX8_through_87 hl (k := 4) rfl (by rw [ex87]; rfl) (by decide) rfl (fun ls hl => ?_)
                have ex87 : x87 = nI (i + 1) := by rw [ex87]; exact nI_1 i
                subst ex87
                refine lv_goto (tgt := 39) hx hb dX8_through_90 (by decide) ?_
                exact ih39 (i + 1) (lN (wsum wt (elA fr to ne i) ne)) ls _ _ (by omega) ⟨by omega, by omega, thI_neg hth hwl c58 c64⟩ hP hD hS (lv_sub hl [2, 3, 4, 1, 0] rfl)
              · -- 64 not
                rw [lg_cmp_lt] at c64
                refine lv_aload_n hx hb dX8_through_67 rfl (lv_at hl 0 rfl) ?_
                refine va_get (D := (dC, dI)) (ci := 8) (v := .ref (R 14)) (C := RX8) (T := TX8) (N := 20) hx hb hts hinX8 hown hK hP 0 rfl rfl 14 (by decide) hf42 (fun _ h9 => h9) rfl dX8_through_68 ?_
                refine lv_iload hx hb dX8_through_71 (lv_at hl 4 rfl) ?_
                have h73 : vp_in (nI i) 16384 := iin
                refine va_lald hx hb hK hP 10 1 rfl rfl h73 dX8_through_73 ?_
                refine lv_topl (fun x73 ex73 => ?_)
                have ex73 : x73 = B28 14 (nI i).toNatClampNeg := ex73
                have ex73 : x73 = lN (wsum wt (elA fr to ne i) ne) := by rw [ex73, icl]; exact (hel i (by omega)).2
                refine lv_lload_n hx hb dX8_through_74 rfl (lv_at hl 3 rfl) ?_
                refine W.lcmp hx hb dX8_through_75 ?_
                refine lv_if_ge (tgt := 87) hx hb dX8_through_76 (by decide) (fun c76 => ?_) (fun c76 => ?_)
                · -- 76 taken
                  rw [lg_cmp_ge] at c76
                  rw [ex73] at c76
                  obtain ⟨x87, ex87⟩ : ∃ y : Int32, y = nI i + (1) := ⟨_, rfl⟩
                  refine lv_iinc (v := x87) (lv' := [(5, .int x87), (0, .ref (R 0)), (1, .int ed), (2, .int (nI (2 ^ dmA fr to ne))), (3, .long y)]) hx hb dX8_through_87 hl (k := 4) rfl (by rw [ex87]; rfl) (by decide) rfl (fun ls hl => ?_)
                  have ex87 : x87 = nI (i + 1) := by rw [ex87]; exact nI_1 i
                  subst ex87
                  refine lv_goto (tgt := 39) hx hb dX8_through_90 (by decide) ?_
                  exact ih39 (i + 1) y ls _ _ (by omega) ⟨by omega, by omega, thI_keep hth hwl c64 c76⟩ hP hD hS (lv_sub hl [1, 2, 3, 4, 0] rfl)
                · -- 76 not
                  rw [lg_cmp_ge] at c76
                  rw [ex73] at c76
                  refine lv_aload_n hx hb dX8_through_79 rfl (lv_at hl 0 rfl) ?_
                  refine va_get (D := (dC, dI)) (ci := 8) (v := .ref (R 14)) (C := RX8) (T := TX8) (N := 20) hx hb hts hinX8 hown hK hP 0 rfl rfl 14 (by decide) hf42 (fun _ h9 => h9) rfl dX8_through_80 ?_
                  refine lv_iload hx hb dX8_through_83 (lv_at hl 4 rfl) ?_
                  have h85 : vp_in (nI i) 16384 := iin
                  refine va_lald hx hb hK hP 10 1 rfl rfl h85 dX8_through_85 ?_
                  refine lv_topl (fun x85 ex85 => ?_)
                  have ex85 : x85 = B28 14 (nI i).toNatClampNeg := ex85
                  have ex85 : x85 = lN (wsum wt (elA fr to ne i) ne) := by rw [ex85, icl]; exact (hel i (by omega)).2
                  subst ex85
                  refine lv_lstore_n (lv' := [(3, .long (lN (wsum wt (elA fr to ne i) ne))), (0, .ref (R 0)), (1, .int ed), (2, .int (nI (2 ^ dmA fr to ne))), (5, .int (nI i))]) hx hb dX8_through_86 rfl hl (by decide) rfl (fun ls hl => ?_)
                  obtain ⟨x87, ex87⟩ : ∃ y : Int32, y = nI i + (1) := ⟨_, rfl⟩
                  refine lv_iinc (v := x87) (lv' := [(5, .int x87), (3, .long (lN (wsum wt (elA fr to ne i) ne))), (0, .ref (R 0)), (1, .int ed), (2, .int (nI (2 ^ dmA fr to ne)))]) hx hb dX8_through_87 hl (k := 4) rfl (by rw [ex87]; rfl) (by decide) rfl (fun ls hl => ?_)
                  have ex87 : x87 = nI (i + 1) := by rw [ex87]; exact nI_1 i
                  subst ex87
                  refine lv_goto (tgt := 39) hx hb dX8_through_90 (by decide) ?_
                  exact ih39 (i + 1) (lN (wsum wt (elA fr to ne i) ne)) ls _ _ (by omega) ⟨by omega, by omega, thI_new hth hwl c58 c64 c76⟩ hP hD hS (lv_sub hl [2, 3, 4, 1, 0] rfl)
      exact K39 _ 1 ((-1)) ls _ _ (Nat.lt_succ_self _) ⟨Nat.le_refl 1, Nat.two_pow_pos _, thI_skip (i := 0) (Or.inl ⟨rfl, fun c h => absurd h (Nat.not_lt_zero _)⟩) (by show (elA fr to ne 0).testBit k = false; rw [show elA fr to ne 0 = 0 from cb_0 _ _]; exact Nat.zero_testBit k)⟩ hP hD hS (lv_sub hl [3, 4, 2, 1, 0] rfl)
    · -- 22 not
      have hv : o = 1 ∧ (ed < 0 ∨ nI ne ≤ ed) := inv18.elim id (fun h => by rw [w19, h.1] at c22; exact absurd rfl c22)
      have eT : I19 = va_up I 0 1 := by rw [eI19, hv.1]; rfl
      refine lv_lconst (v := 0) hx hb dX8_through_25 (by decide) ?_
      refine hret 26 ls _ _ 0 (I19, A, B) dX8_through_26 ?_ hP hD hS
      try dsimp only
      exact ⟨fun _ => ⟨by rw [eT]; exact up_self, fP.rf0 eT⟩, fun k hk he => by rw [he] at hv; exact hv.2.elim (fun h => absurd h (nI_pos (by omega))) (fun h => absurd ((nI_leI (by omega) (by omega)).mp h) (by omega))⟩
  refine lv_iload_n hx hb dX8_through_1 rfl (lv_at hl 1 rfl) ?_
  refine lv_if_lt (tgt := 13) hx hb dX8_through_2 (by decide) (fun c2 => ?_) (fun c2 => ?_)
  · -- 2 taken
    refine lv_iconst (v := 1) hx hb dX8_through_13 (by decide) ?_
    refine lv_goto (tgt := 18) hx hb dX8_through_14 (by decide) ?_
    exact K18 1 ls _ _  (Or.inl ⟨rfl, Or.inl c2⟩) hP hD hS (lv_sub hl [0, 1] rfl)
  · -- 2 not
    refine lv_iload_n hx hb dX8_through_5 rfl (lv_at hl 1 rfl) ?_
    refine lv_aload_n hx hb dX8_through_6 rfl (lv_at hl 0 rfl) ?_
    refine va_get (D := (dC, dI)) (ci := 8) (v := .int (I 2)) (C := RX8) (T := TX8) (N := 20) hx hb hts hinX8 hown hK hP 0 rfl rfl 2 (by decide) hf61 (fun _ h9 => h9) rfl dX8_through_7 ?_
    refine lv_icmp_lt (tgt := 17) hx hb dX8_through_10 (by decide) (fun c10 => ?_) (fun c10 => ?_)
    · -- 10 taken
      rw [g5] at c10
      refine lv_iconst (v := 0) hx hb dX8_through_17 (by decide) ?_
      exact K18 0 ls _ _  (Or.inr ⟨rfl, by obtain ⟨j, hj, rfl⟩ := nI_of c2; exact ⟨j, (nI_ltI hj (by omega)).mp c10, rfl⟩⟩) hP hD hS (lv_sub hl [0, 1] rfl)
    · -- 10 not
      rw [g5] at c10
      refine lv_iconst (v := 1) hx hb dX8_through_13 (by decide) ?_
      refine lv_goto (tgt := 18) hx hb dX8_through_14 (by decide) ?_
      exact K18 1 ls _ _  (Or.inl ⟨rfl, Or.inr (Int32.not_lt.mp c10)⟩) hP hD hS (lv_sub hl [0, 1] rfl)
set_option maxHeartbeats 4000000 in
set_option maxRecDepth 100000 in
theorem k_X8_numberOf (l : Launch) (dC : Nat → ClassId) (dI : Nat → Nat → Nat) (cI cJ cZ cII cJJ : ClassId) (R : Nat → Nat) (I : Nat → Int32) (A : Nat → Nat → Int32) (B : Nat → Nat → Int64) (nv ne : Nat) (fr to wt : Nat → Nat) (z : Nat) (g : gM nv ne fr to wt I A) (hz : z < 2 ^ 62) (hd : dmA fr to ne ≤ 14) (hq : rJ nv (jRun fr to (fl ne) ne) I A B) : ctI l (dC, dI) (tyL cI cJ cZ cII cJJ) (MW cI cJ cZ R) yX8_numberOf wsX8_numberOf (0, 0) [.ref (R 0), .long (lN z)] (I, A, B) (fun r u => r = nI (nb (fun i => z.testBit (czA fr to ne i)) (dmA fr to ne)) ∧ u = (I, A, B)) := by
  refine ctI_intro (cc := cX8_numberOf) (maxL := 5) (by decide) rfl (Nat.le_of_ble_eq_true rfl) ?_
  intro p e s m below meth c ls Aa Q F hK hN hP hD hS hA hl hret
  have hx := F.1
  have hb := F.2.1
  have hown : s.vm.findClass RX8 = some m.cls := F.2.2.2.1
  have hts := F.2.2.2.2
  have hinX8 : ∀ w ∈ wsX80, w ∈ wsX8_numberOf := by decide +kernel
  have hf64 := hts (.fieldLink RX8 64 "CycleHouseModel" "closed" "I") (by decide +kernel)
  have hf36 := hts (.fieldLink RX8 36 "CycleHouseModel" "closer" "[I") (by decide +kernel)
  have hl : lv_has ls 5 [(0, .ref (R 0)), (1, .long (lN z))] := hl
  obtain ⟨g1, g2, g3, g4, g5, g6⟩ := id g
  refine lv_iconst (v := 0) hx hb dX8_numberOf_0 (by decide) ?_
  refine lv_istore_n (lv' := [(3, .int 0), (0, .ref (R 0)), (1, .long (lN z))]) hx hb dX8_numberOf_1 rfl hl (by decide) rfl (fun ls hl => ?_)
  refine lv_iconst (v := 0) hx hb dX8_numberOf_2 (by decide) ?_
  refine lv_istore (lv' := [(4, .int 0), (3, .int 0), (0, .ref (R 0)), (1, .long (lN z))]) hx hb dX8_numberOf_3 hl (by decide) rfl (fun ls hl => ?_)
  have K5 : ∀ (kn : Nat) (i : Nat) (x : Int32) (ls : Array Slot) (H : Heap) (locs : List Loc), dmA fr to ne - i < kn → (i ≤ dmA fr to ne ∧ x = nI (nb (fun i => z.testBit (czA fr to ne i)) i)) → va_P (dC, dI) vwCl (MW cI cJ cZ R (I, A, B)) H → va_D Aa (MW cI cJ cZ R (I, A, B)) → va_S Aa s.heap H locs → lv_has ls 5 [(0, .ref (R 0)), (1, .long (lN z)), (3, .int x), (4, .int (nI i))] → W p l e (ctR (0, 0)) s m #[.ref (R 0), .long (lN z)] below meth c H locs 0 0 Q (F0 m 5 ls []) := by
    intro kn
    induction kn with
    | zero => intro i x ls H locs hmu; exact absurd hmu (Nat.not_lt_zero _)
    | succ kn ih5 =>
      intro i x ls H locs mu5 inv5 hP hD hS hl
      obtain ⟨hi, ex⟩ := inv5
      refine lv_iload hx hb dX8_numberOf_5 (lv_at hl 3 rfl) ?_
      refine lv_aload_n hx hb dX8_numberOf_7 rfl (lv_at hl 0 rfl) ?_
      refine va_get (D := (dC, dI)) (ci := 8) (v := .int (I 10)) (C := RX8) (T := TX8) (N := 20) hx hb hts hinX8 hown hK hP 0 rfl rfl 10 (by decide) hf64 (fun _ h9 => h9) rfl dX8_numberOf_8 ?_
      refine lv_icmp_ge (tgt := 47) hx hb dX8_numberOf_11 (by decide) (fun c11 => ?_) (fun c11 => ?_)
      · -- 11 taken
        rw [show I 10 = nI (dmA fr to ne) from hq.2.2.1, nI_leI (by omega) (by omega)] at c11
        have hge : i = dmA fr to ne := by omega
        rw [hge] at ex
        refine lv_iload_n hx hb dX8_numberOf_47 rfl (lv_at hl 2 rfl) ?_
        refine hret 48 ls _ _ x (I, A, B) dX8_numberOf_48 rfl ?_ hP hD hS
        try dsimp only
        exact ⟨ex, rfl⟩
      · -- 11 not
        rw [show I 10 = nI (dmA fr to ne) from hq.2.2.1, nI_leI (by omega) (by omega)] at c11
        have icl : (nI i).toNatClampNeg = i := nI_clamp (by omega)
        have hcz : czA fr to ne i < ne := ((jA (by omega) g.en).2.2.2.2.1 i (by show i < dmA fr to ne; omega)).1
        refine lv_iload_n hx hb dX8_numberOf_14 rfl (lv_at hl 2 rfl) ?_
        refine lv_lload_n hx hb dX8_numberOf_15 rfl (lv_at hl 1 rfl) ?_
        refine lv_aload_n hx hb dX8_numberOf_16 rfl (lv_at hl 0 rfl) ?_
        refine va_get (D := (dC, dI)) (ci := 8) (v := .ref (R 12)) (C := RX8) (T := TX8) (N := 20) hx hb hts hinX8 hown hK hP 0 rfl rfl 12 (by decide) hf36 (fun _ h9 => h9) rfl dX8_numberOf_17 ?_
        refine lv_iload hx hb dX8_numberOf_20 (lv_at hl 3 rfl) ?_
        have h22 : vp_in (nI i) 40 := vp_in_nI (by omega) (by omega)
        refine va_iald hx hb hK hP 8 0 rfl rfl h22 dX8_numberOf_22 ?_
        refine lv_topi (fun x22 ex22 => ?_)
        have ex22 : x22 = A 12 (nI i).toNatClampNeg := ex22
        have ex22 : x22 = nI (czA fr to ne i) := by rw [ex22, icl]; exact (hq.2.2.2 i (by show i < dmA fr to ne; omega)).2
        subst ex22
        refine lv_lshr hx hb dX8_numberOf_23 rfl ?_
        refine lv_topl (fun x23 ex23 => ?_)
        refine lv_lconst (v := 1) hx hb dX8_numberOf_24 (by decide) ?_
        refine lv_land hx hb dX8_numberOf_25 ?_
        refine lv_topl (fun x25 ex25 => ?_)
        refine lv_lconst (v := 1) hx hb dX8_numberOf_26 (by decide) ?_
        refine W.lcmp hx hb dX8_numberOf_27 ?_
        refine lv_if_ne (tgt := 38) hx hb dX8_numberOf_28 (by decide) (fun c28 => ?_) (fun c28 => ?_)
        · -- 28 taken
          rw [lg_cmp_eq] at c28
          rw [ex25, ex23, nm_bit1 hz (by omega)] at c28
          refine lv_iconst (v := 0) hx hb dX8_numberOf_38 (by decide) ?_
          refine lv_ior hx hb dX8_numberOf_39 ?_
          refine lv_topi (fun x39 ex39 => ?_)
          refine lv_istore_n (lv' := [(3, .int x39), (0, .ref (R 0)), (1, .long (lN z)), (4, .int (nI i))]) hx hb dX8_numberOf_40 rfl hl (by decide) rfl (fun ls hl => ?_)
          obtain ⟨x41, ex41⟩ : ∃ y : Int32, y = nI i + (1) := ⟨_, rfl⟩
          refine lv_iinc (v := x41) (lv' := [(4, .int x41), (3, .int x39), (0, .ref (R 0)), (1, .long (lN z))]) hx hb dX8_numberOf_41 hl (k := 3) rfl (by rw [ex41]; rfl) (by decide) rfl (fun ls hl => ?_)
          have ex41 : x41 = nI (i + 1) := by rw [ex41]; exact nI_1 i
          subst ex41
          refine lv_goto (tgt := 5) hx hb dX8_numberOf_44 (by decide) ?_
          exact ih5 (i + 1) x39 ls _ _ (by omega) ⟨by omega, by rw [ex39, ex, nb, if_neg c28, Nat.add_zero]; exact Int32.or_zero⟩ hP hD hS (lv_sub hl [2, 3, 1, 0] rfl)
        · -- 28 not
          rw [lg_cmp_eq] at c28
          rw [ex25, ex23, nm_bit1 hz (by omega)] at c28
          refine lv_iconst (v := 1) hx hb dX8_numberOf_31 (by decide) ?_
          refine lv_iload hx hb dX8_numberOf_32 (lv_at hl 3 rfl) ?_
          refine lv_ishl hx hb dX8_numberOf_34 ?_
          refine lv_topi (fun x34 ex34 => ?_)
          refine lv_goto (tgt := 39) hx hb dX8_numberOf_35 (by decide) ?_
          refine lv_ior hx hb dX8_numberOf_39 ?_
          refine lv_topi (fun x39 ex39 => ?_)
          refine lv_istore_n (lv' := [(3, .int x39), (0, .ref (R 0)), (1, .long (lN z)), (4, .int (nI i))]) hx hb dX8_numberOf_40 rfl hl (by decide) rfl (fun ls hl => ?_)
          obtain ⟨x41, ex41⟩ : ∃ y : Int32, y = nI i + (1) := ⟨_, rfl⟩
          refine lv_iinc (v := x41) (lv' := [(4, .int x41), (3, .int x39), (0, .ref (R 0)), (1, .long (lN z))]) hx hb dX8_numberOf_41 hl (k := 3) rfl (by rw [ex41]; rfl) (by decide) rfl (fun ls hl => ?_)
          have ex41 : x41 = nI (i + 1) := by rw [ex41]; exact nI_1 i
          subst ex41
          refine lv_goto (tgt := 5) hx hb dX8_numberOf_44 (by decide) ?_
          exact ih5 (i + 1) x39 ls _ _ (by omega) ⟨by omega, by rw [ex39, ex, ex34, nm_ishl (by omega), or_bit (nb_lt _ _) (by omega), nb, if_pos c28]⟩ hP hD hS (lv_sub hl [2, 3, 1, 0] rfl)
  exact K5 _ 0 0 ls _ _ (Nat.lt_succ_self _) ⟨Nat.zero_le _, rfl⟩ hP hD hS (lv_sub hl [2, 3, 1, 0] rfl)
end
section
set_option maxHeartbeats 4000000 in
set_option maxRecDepth 100000 in
theorem k_X8_rest (l : Launch) (dC : Nat → ClassId) (dI : Nat → Nat → Nat) (cI cJ cZ cII cJJ : ClassId) (R : Nat → Nat) (I : Nat → Int32) (A : Nat → Nat → Int32) (B : Nat → Nat → Int64) (b rd : Nat) (rows : Nat → Nat) (z : Nat) (hbb : b ≤ 40) (hr : rR b rd rows I B) (hk : rd ≤ 40) (hz : z < 2 ^ b) : ctL l (dC, dI) (tyL cI cJ cZ cII cJJ) (MW cI cJ cZ R) yX8_rest wsX8_rest (0, 0) [.ref (R 0), .long (lN z)] (I, A, B) (fun r u => r = lN (rsn rows rd z) ∧ u = (I, A, B)) := by
  refine ctL_intro (cc := cX8_rest) (maxL := 6) (by decide) rfl (Nat.le_of_ble_eq_true rfl) ?_
  intro p e s m below meth c ls Aa Q F hK hN hP hD hS hA hl hret
  have hx := F.1
  have hb := F.2.1
  have hown : s.vm.findClass RX8 = some m.cls := F.2.2.2.1
  have hts := F.2.2.2.2
  have hinX8 : ∀ w ∈ wsX80, w ∈ wsX8_rest := by decide +kernel
  have hf130 := hts (.fieldLink RX8 130 "CycleHouseModel" "rowed" "I") (by decide +kernel)
  have hf45 := hts (.fieldLink RX8 45 "CycleHouseModel" "rows" "[J") (by decide +kernel)
  have hl : lv_has ls 6 [(0, .ref (R 0)), (1, .long (lN z))] := hl
  refine lv_lload_n hx hb dX8_rest_0 rfl (lv_at hl 1 rfl) ?_
  refine lv_lstore_n (lv' := [(3, .long (lN z)), (0, .ref (R 0)), (1, .long (lN z))]) hx hb dX8_rest_1 rfl hl (by decide) rfl (fun ls hl => ?_)
  refine lv_iconst (v := 0) hx hb dX8_rest_2 (by decide) ?_
  refine lv_istore (lv' := [(5, .int 0), (3, .long (lN z)), (0, .ref (R 0)), (1, .long (lN z))]) hx hb dX8_rest_3 hl (by decide) rfl (fun ls hl => ?_)
  have K5 : ∀ (kn : Nat) (i : Nat) (y : Int64) (ls : Array Slot) (H : Heap) (locs : List Loc), rd - i < kn → (i ≤ rd ∧ y = lN (rsn rows i z)) → va_P (dC, dI) vwCl (MW cI cJ cZ R (I, A, B)) H → va_D Aa (MW cI cJ cZ R (I, A, B)) → va_S Aa s.heap H locs → lv_has ls 6 [(0, .ref (R 0)), (1, .long (lN z)), (3, .long y), (5, .int (nI i))] → W p l e (ctR (0, 0)) s m #[.ref (R 0), .long (lN z)] below meth c H locs 0 0 Q (F0 m 5 ls []) := by
    intro kn
    induction kn with
    | zero => intro i y ls H locs hmu; exact absurd hmu (Nat.not_lt_zero _)
    | succ kn ih5 =>
      intro i y ls H locs mu5 inv5 hP hD hS hl
      obtain ⟨hi, ey⟩ := inv5
      refine lv_iload hx hb dX8_rest_5 (lv_at hl 3 rfl) ?_
      refine lv_aload_n hx hb dX8_rest_7 rfl (lv_at hl 0 rfl) ?_
      refine va_get (D := (dC, dI)) (ci := 8) (v := .int (I 16)) (C := RX8) (T := TX8) (N := 20) hx hb hts hinX8 hown hK hP 0 rfl rfl 16 (by decide) hf130 (fun _ h9 => h9) rfl dX8_rest_8 ?_
      refine lv_icmp_ge (tgt := 44) hx hb dX8_rest_11 (by decide) (fun c11 => ?_) (fun c11 => ?_)
      · -- 11 taken
        rw [hr.1, nI_leI (by omega) (by omega)] at c11
        have hge : i = rd := by omega
        rw [hge] at ey
        refine lv_lload_n hx hb dX8_rest_44 rfl (lv_at hl 2 rfl) ?_
        refine hret 45 ls _ _ y (I, A, B) dX8_rest_45 ?_ hP hD hS
        try dsimp only
        exact ⟨ey, rfl⟩
      · -- 11 not
        rw [hr.1, nI_leI (by omega) (by omega)] at c11
        have icl : (nI i).toNatClampNeg = i := nI_clamp (by omega)
        have iin : vp_in (nI i) 64 := vp_in_nI (by omega) (by omega)
        have l1 := rsn_lt hz i (fun j hj => (hr.2 j (by omega)).2)
        have l2 := pwb (Nat.xor_lt_two_pow l1 (hr.2 i (by omega)).2) hbb
        have l1 := pwb l1 hbb
        refine lv_lload_n hx hb dX8_rest_14 rfl (lv_at hl 2 rfl) ?_
        refine lv_aload_n hx hb dX8_rest_15 rfl (lv_at hl 0 rfl) ?_
        refine va_get (D := (dC, dI)) (ci := 8) (v := .ref (R 15)) (C := RX8) (T := TX8) (N := 20) hx hb hts hinX8 hown hK hP 0 rfl rfl 15 (by decide) hf45 (fun _ h9 => h9) rfl dX8_rest_16 ?_
        refine lv_iload hx hb dX8_rest_19 (lv_at hl 3 rfl) ?_
        have h21 : vp_in (nI i) 64 := iin
        refine va_lald hx hb hK hP 11 1 rfl rfl h21 dX8_rest_21 ?_
        refine lv_topl (fun x21 ex21 => ?_)
        have ex21 : x21 = B 15 (nI i).toNatClampNeg := ex21
        refine lv_lxor hx hb dX8_rest_22 ?_
        refine lv_topl (fun x22 ex22 => ?_)
        have ex22 : x22 = lN (rsn rows i z ^^^ rows i) := by rw [ex22, ex21, icl, (hr.2 i (by omega)).1, ey, lN_xor]
        subst ex22
        refine lv_lload_n hx hb dX8_rest_23 rfl (lv_at hl 2 rfl) ?_
        refine W.lcmp hx hb dX8_rest_24 ?_
        refine lv_if_ge (tgt := 38) hx hb dX8_rest_25 (by decide) (fun c25 => ?_) (fun c25 => ?_)
        · -- 25 taken
          rw [lg_cmp_ge] at c25
          rw [ey, pk_lLE l1 l2] at c25
          obtain ⟨x38, ex38⟩ : ∃ zz : Int32, zz = nI i + (1) := ⟨_, rfl⟩
          refine lv_iinc (v := x38) (lv' := [(5, .int x38), (0, .ref (R 0)), (1, .long (lN z)), (3, .long y)]) hx hb dX8_rest_38 hl (k := 3) rfl (by rw [ex38]; rfl) (by decide) rfl (fun ls hl => ?_)
          have ex38 : x38 = nI (i + 1) := by rw [ex38]; exact nI_1 i
          subst ex38
          refine lv_goto (tgt := 5) hx hb dX8_rest_41 (by decide) ?_
          exact ih5 (i + 1) y ls _ _ (by omega) ⟨by omega, by rw [rsn, if_neg (by omega)]; exact ey⟩ hP hD hS (lv_sub hl [1, 2, 3, 0] rfl)
        · -- 25 not
          rw [lg_cmp_ge] at c25
          rw [ey, pk_lLE l1 l2] at c25
          refine lv_lload_n hx hb dX8_rest_28 rfl (lv_at hl 2 rfl) ?_
          refine lv_aload_n hx hb dX8_rest_29 rfl (lv_at hl 0 rfl) ?_
          refine va_get (D := (dC, dI)) (ci := 8) (v := .ref (R 15)) (C := RX8) (T := TX8) (N := 20) hx hb hts hinX8 hown hK hP 0 rfl rfl 15 (by decide) hf45 (fun _ h9 => h9) rfl dX8_rest_30 ?_
          refine lv_iload hx hb dX8_rest_33 (lv_at hl 3 rfl) ?_
          have h35 : vp_in (nI i) 64 := iin
          refine va_lald hx hb hK hP 11 1 rfl rfl h35 dX8_rest_35 ?_
          refine lv_topl (fun x35 ex35 => ?_)
          have ex35 : x35 = B 15 (nI i).toNatClampNeg := ex35
          refine lv_lxor hx hb dX8_rest_36 ?_
          refine lv_topl (fun x36 ex36 => ?_)
          have ex36 : x36 = lN (rsn rows i z ^^^ rows i) := by rw [ex36, ex35, icl, (hr.2 i (by omega)).1, ey, lN_xor]
          subst ex36
          refine lv_lstore_n (lv' := [(3, .long (lN (rsn rows i z ^^^ rows i))), (0, .ref (R 0)), (1, .long (lN z)), (5, .int (nI i))]) hx hb dX8_rest_37 rfl hl (by decide) rfl (fun ls hl => ?_)
          obtain ⟨x38, ex38⟩ : ∃ zz : Int32, zz = nI i + (1) := ⟨_, rfl⟩
          refine lv_iinc (v := x38) (lv' := [(5, .int x38), (3, .long (lN (rsn rows i z ^^^ rows i))), (0, .ref (R 0)), (1, .long (lN z))]) hx hb dX8_rest_38 hl (k := 3) rfl (by rw [ex38]; rfl) (by decide) rfl (fun ls hl => ?_)
          have ex38 : x38 = nI (i + 1) := by rw [ex38]; exact nI_1 i
          subst ex38
          refine lv_goto (tgt := 5) hx hb dX8_rest_41 (by decide) ?_
          exact ih5 (i + 1) (lN (rsn rows i z ^^^ rows i)) ls _ _ (by omega) ⟨by omega, by rw [rsn, if_pos (by omega)]⟩ hP hD hS (lv_sub hl [2, 3, 1, 0] rfl)
  exact K5 _ 0 (lN z) ls _ _ (Nat.lt_succ_self _) ⟨Nat.zero_le _, rfl⟩ hP hD hS (lv_sub hl [2, 3, 1, 0] rfl)
set_option maxHeartbeats 4000000 in
set_option maxRecDepth 100000 in
theorem k_X8_take (l : Launch) (dC : Nat → ClassId) (dI : Nat → Nat → Nat) (cI cJ cZ cII cJJ : ClassId) (R : Nat → Nat) (I : Nat → Int32) (A : Nat → Nat → Int32) (B : Nat → Nat → Int64) (b rd : Nat) (rows : Nat → Nat) (P : Nat → Prop) (z : Nat) (hbb : b ≤ 40) (hr : rR b rd rows I B) (hs : rowsS rd rows P) (hz : z < 2 ^ b) : ctI l (dC, dI) (tyL cI cJ cZ cII cJJ) (MW cI cJ cZ R) yX8_take wsX8_take (1, 30) [.ref (R 0), .long (lN z)] (I, A, B) (fun r u => ∃ rd2 rows2, rR b rd2 rows2 u.1 u.2.2 ∧ rowsS rd2 rows2 (fun a => P a ∨ a = z) ∧ ((spS P z ∧ r = 0 ∧ rd2 = rd) ∨ (¬ spS P z ∧ r = 1 ∧ rd2 = rd + 1)) ∧ (∀ k, k ≠ 16 → u.1 k = I k) ∧ u.2.1 = A ∧ ∀ k, k ≠ 15 → u.2.2 k = B k) := by
  refine ctI_intro (cc := cX8_take) (maxL := 6) (by decide) rfl (Nat.le_of_ble_eq_true rfl) ?_
  intro p e s m below meth c ls Aa Q F hK hN hP hD hS hA hl hret
  have hx := F.1
  have hb := F.2.1
  have hown : s.vm.findClass RX8 = some m.cls := F.2.2.2.1
  have hts := F.2.2.2.2
  have hinX8 : ∀ w ∈ wsX80, w ∈ wsX8_take := by decide +kernel
  have hf130 := hts (.fieldLink RX8 130 "CycleHouseModel" "rowed" "I") (by decide +kernel)
  have hf45 := hts (.fieldLink RX8 45 "CycleHouseModel" "rows" "[J") (by decide +kernel)
  have hl : lv_has ls 6 [(0, .ref (R 0)), (1, .long (lN z))] := hl
  have hk : rd ≤ 40 := Nat.le_trans (rowsOK_le hs.1 (fun i hi => (hr.2 i hi).2)) hbb
  have lz := rsn_lt hz rd (fun j hj => (hr.2 j hj).2)
  have lz2 := pwb lz hbb
  refine lv_aload_n hx hb dX8_take_0 rfl (lv_at hl 0 rfl) ?_
  refine lv_lload_n hx hb dX8_take_1 rfl (lv_at hl 1 rfl) ?_
  refine ct_calll hD hS hA (va_runV (As := [.long (lN z)]) (rest := []) F ((k_X8_rest l dC dI cI cJ cZ cII cJJ R I A B b rd rows z hbb hr hk hz) _) (cwV 1 hts gX8_take_X8_rest rfl rfl rfl (by decide +kernel) ⟨(Nat.le_of_ble_eq_true rfl), (Nat.le_of_ble_eq_true rfl)⟩) (ct_preV 0 8 hK hN hP hD rfl rfl) rfl rfl hl.1 rfl (lv_room (Nat.le_of_ble_eq_true rfl)) dX8_take_2 ⟨(Nat.le_of_ble_eq_true rfl), (Nat.le_of_ble_eq_true rfl)⟩) (fun r2 u2 H locs w2 hP hD hS => ?_)
  obtain ⟨w2, rfl⟩ := w2
  have er2 : r2 = lN (rsn rows rd z) := w2
  subst er2
  refine lv_lstore_n (lv' := [(3, .long (lN (rsn rows rd z))), (0, .ref (R 0)), (1, .long (lN z))]) hx hb dX8_take_5 rfl hl (by decide) rfl (fun ls hl => ?_)
  refine lv_lload_n hx hb dX8_take_6 rfl (lv_at hl 0 rfl) ?_
  refine lv_lconst (v := 0) hx hb dX8_take_7 (by decide) ?_
  refine W.lcmp hx hb dX8_take_8 ?_
  refine lv_if_ne (tgt := 14) hx hb dX8_take_9 (by decide) (fun c9 => ?_) (fun c9 => ?_)
  · -- 9 taken
    rw [lg_cmp_eq] at c9
    have hne : rsn rows rd z ≠ 0 := fun h => c9 (by rw [h]; rfl)
    refine lv_aload_n hx hb dX8_take_14 rfl (lv_at hl 1 rfl) ?_
    refine va_get (D := (dC, dI)) (ci := 8) (v := .int (I 16)) (C := RX8) (T := TX8) (N := 20) hx hb hts hinX8 hown hK hP 0 rfl rfl 16 (by decide) hf130 (fun _ h9 => h9) rfl dX8_take_15 ?_
    rw [show I 16 = nI rd from hr.1]
    refine lv_istore (lv' := [(5, .int (nI rd)), (3, .long (lN (rsn rows rd z))), (0, .ref (R 0)), (1, .long (lN z))]) hx hb dX8_take_18 hl (by decide) rfl (fun ls hl => ?_)
    have K20 : ∀ (kn : Nat) (p2 : Nat) (B_20 : Nat → Nat → Int64) (ls : Array Slot) (H : Heap) (locs : List Loc), p2 < kn → (p2 ≤ rd ∧ (∀ i, i < p2 → B_20 15 i = lN (rows i)) ∧ (∀ i, p2 ≤ i → i < rd → B_20 15 (i + 1) = lN (rows i) ∧ rows i < rsn rows rd z) ∧ ∀ k, k ≠ 15 → B_20 k = B k) → va_P (dC, dI) vwCl (MW cI cJ cZ R (I, A, B_20)) H → va_D Aa (MW cI cJ cZ R (I, A, B_20)) → va_S Aa s.heap H locs → lv_has ls 6 [(0, .ref (R 0)), (1, .long (lN z)), (3, .long (lN (rsn rows rd z))), (5, .int (nI p2))] → W p l e (ctR (1, 30)) s m #[.ref (R 0), .long (lN z)] below meth c H locs 0 0 Q (F0 m 20 ls []) := by
      intro kn
      induction kn with
      | zero => intro p2 B_20 ls H locs hmu; exact absurd hmu (Nat.not_lt_zero _)
      | succ kn ih20 =>
        intro p2 B_20 ls H locs mu20 inv20 hP hD hS hl
        obtain ⟨hp, b1, b2, b3⟩ := inv20
        have pcl : (nI p2).toNatClampNeg = p2 := nI_clamp (by omega)
        have pin : vp_in (nI p2) 64 := vp_in_nI (by omega) (by omega)
        refine lv_iload hx hb dX8_take_20 (lv_at hl 3 rfl) ?_
        refine lv_if_le (tgt := 61) hx hb dX8_take_22 (by decide) (fun c22 => ?_) (fun c22 => ?_)
        · -- 22 taken
          have hp0 : p2 = 0 := by have := (nI_leI (b := 0) (by omega) (by omega)).mp c22; omega
          refine lv_aload_n hx hb dX8_take_61 rfl (lv_at hl 0 rfl) ?_
          refine va_get (D := (dC, dI)) (ci := 8) (v := .ref (R 15)) (C := RX8) (T := TX8) (N := 20) hx hb hts hinX8 hown hK hP 0 rfl rfl 15 (by decide) hf45 (fun _ h9 => h9) rfl dX8_take_62 ?_
          refine lv_iload hx hb dX8_take_65 (lv_at hl 3 rfl) ?_
          refine lv_lload_n hx hb dX8_take_67 rfl (lv_at hl 2 rfl) ?_
          have h68 : vp_in (nI p2) 64 := pin
          refine va_last hx hb hK hP hD hS 11 1 rfl rfl h68 dX8_take_68 (fun H locs hP hD hS => ?_)
          obtain ⟨B68, eB68⟩ : ∃ zz : Nat → Nat → Int64, zz = va_up B_20 15 (vp_updL (B_20 15) (nI p2).toNatClampNeg (lN (rsn rows rd z))) := ⟨_, rfl⟩
          have hP : va_P (dC, dI) vwCl (MW cI cJ cZ R (I, A, B68)) H := by rw [eB68]; exact hP
          have hD : va_D Aa (MW cI cJ cZ R (I, A, B68)) := by rw [eB68]; exact hD
          refine lv_aload_n hx hb dX8_take_69 rfl (lv_at hl 0 rfl) ?_
          refine lv_dup hx hb dX8_take_70 rfl ?_
          refine va_get (D := (dC, dI)) (ci := 8) (v := .int (I 16)) (C := RX8) (T := TX8) (N := 20) hx hb hts hinX8 hown hK hP 0 rfl rfl 16 (by decide) hf130 (fun _ h9 => h9) rfl dX8_take_71 ?_
          refine lv_iconst (v := 1) hx hb dX8_take_74 (by decide) ?_
          refine lv_iadd hx hb dX8_take_75 ?_
          refine lv_topi (fun x75 ex75 => ?_)
          refine va_put (D := (dC, dI)) (ci := 8) (v := .int x75) (ty := .int) (C := RX8) (T := TX8) (N := 20) hx hb hts hinX8 tyX8 tyX8_ok nmX8 hown hK hP hD hS 0 rfl rfl 16 (by decide) hf130 (fun _ h9 => h9) rfl (by decide +kernel) rfl rfl (Nat.le_of_ble_eq_true rfl) dX8_take_76 (fun H locs hP hD hS => ?_)
          obtain ⟨I76, eI76⟩ : ∃ zz : Nat → Int32, zz = va_up I 16 x75 := ⟨_, rfl⟩
          have hP : va_P (dC, dI) vwCl (MW cI cJ cZ R (I76, A, B68)) H := by rw [eI76]; exact hP
          have hD : va_D Aa (MW cI cJ cZ R (I76, A, B68)) := by rw [eI76]; exact hD
          refine lv_iconst (v := 1) hx hb dX8_take_79 (by decide) ?_
          refine hret 80 ls _ _ 1 (I76, A, B68) dX8_take_80 rfl ?_ hP hD hS
          try dsimp only
          refine ?_
          have l1 : ∀ i, i < p2 → rsn rows rd z ≤ rows i := fun i h => absurd h (by omega)
          refine ⟨rd + 1, insR rows p2 (rsn rows rd z), ⟨by show I76 16 = _; rw [eI76, up_self, ex75, hr.1]; exact nI_1 rd, fun k hk => ?_⟩, hs.ins hp hne l1 (fun i a b => (b2 i a b).2), Or.inr ⟨fun h => hne ((hs.rest z).mpr h), rfl, rfl⟩, fun k hk => by show I76 k = _; rw [eI76, up_ne hk], rfl, fun k hk => by show B68 k = _; rw [eB68, up_ne hk]; exact b3 k hk⟩
          show B68 15 k = _ ∧ _
          rw [eB68, up_self, pcl]
          unfold insR
          by_cases k1 : k < p2
          · rw [if_pos k1, pk_uLn (by omega)]; exact ⟨b1 k k1, (hr.2 k (by omega)).2⟩
          · by_cases k2 : k = p2
            · rw [if_neg k1, if_pos k2, k2, pk_uLs]; exact ⟨rfl, lz⟩
            · rw [if_neg k1, if_neg k2, pk_uLn k2]
              have := b2 (k - 1) (by omega) (by omega)
              rw [show k - 1 + 1 = k by omega] at this
              exact ⟨this.1, (hr.2 (k - 1) (by omega)).2⟩
        · -- 22 not
          have hp0 : 0 < p2 := Nat.pos_of_ne_zero (fun h => c22 (by rw [h]; decide))
          have qcl : (nI (p2 - 1)).toNatClampNeg = p2 - 1 := nI_clamp (by omega)
          have qin : vp_in (nI (p2 - 1)) 64 := vp_in_nI (by omega) (by omega)
          refine lv_aload_n hx hb dX8_take_25 rfl (lv_at hl 0 rfl) ?_
          refine va_get (D := (dC, dI)) (ci := 8) (v := .ref (R 15)) (C := RX8) (T := TX8) (N := 20) hx hb hts hinX8 hown hK hP 0 rfl rfl 15 (by decide) hf45 (fun _ h9 => h9) rfl dX8_take_26 ?_
          refine lv_iload hx hb dX8_take_29 (lv_at hl 3 rfl) ?_
          refine lv_iconst (v := 1) hx hb dX8_take_31 (by decide) ?_
          refine lv_isub hx hb dX8_take_32 ?_
          refine lv_topi (fun x32 ex32 => ?_)
          have ex32 : x32 = nI (p2 - 1) := by rw [ex32]; exact pk_sub (b := 1) (by omega)
          subst ex32
          have h33 : vp_in (nI (p2 - 1)) 64 := qin
          refine va_lald hx hb hK hP 11 1 rfl rfl h33 dX8_take_33 ?_
          refine lv_topl (fun x33 ex33 => ?_)
          have ex33 : x33 = B_20 15 (nI (p2 - 1)).toNatClampNeg := ex33
          have ex33 : x33 = lN (rows (p2 - 1)) := by rw [ex33, qcl]; exact b1 _ (by omega)
          subst ex33
          refine lv_lload_n hx hb dX8_take_34 rfl (lv_at hl 2 rfl) ?_
          refine W.lcmp hx hb dX8_take_35 ?_
          refine lv_if_ge (tgt := 61) hx hb dX8_take_36 (by decide) (fun c36 => ?_) (fun c36 => ?_)
          · -- 36 taken
            rw [lg_cmp_ge] at c36
            rw [pk_lLE lz2 (pwb (hr.2 _ (by omega)).2 hbb)] at c36
            refine lv_aload_n hx hb dX8_take_61 rfl (lv_at hl 0 rfl) ?_
            refine va_get (D := (dC, dI)) (ci := 8) (v := .ref (R 15)) (C := RX8) (T := TX8) (N := 20) hx hb hts hinX8 hown hK hP 0 rfl rfl 15 (by decide) hf45 (fun _ h9 => h9) rfl dX8_take_62 ?_
            refine lv_iload hx hb dX8_take_65 (lv_at hl 3 rfl) ?_
            refine lv_lload_n hx hb dX8_take_67 rfl (lv_at hl 2 rfl) ?_
            have h68 : vp_in (nI p2) 64 := pin
            refine va_last hx hb hK hP hD hS 11 1 rfl rfl h68 dX8_take_68 (fun H locs hP hD hS => ?_)
            obtain ⟨B68, eB68⟩ : ∃ zz : Nat → Nat → Int64, zz = va_up B_20 15 (vp_updL (B_20 15) (nI p2).toNatClampNeg (lN (rsn rows rd z))) := ⟨_, rfl⟩
            have hP : va_P (dC, dI) vwCl (MW cI cJ cZ R (I, A, B68)) H := by rw [eB68]; exact hP
            have hD : va_D Aa (MW cI cJ cZ R (I, A, B68)) := by rw [eB68]; exact hD
            refine lv_aload_n hx hb dX8_take_69 rfl (lv_at hl 0 rfl) ?_
            refine lv_dup hx hb dX8_take_70 rfl ?_
            refine va_get (D := (dC, dI)) (ci := 8) (v := .int (I 16)) (C := RX8) (T := TX8) (N := 20) hx hb hts hinX8 hown hK hP 0 rfl rfl 16 (by decide) hf130 (fun _ h9 => h9) rfl dX8_take_71 ?_
            refine lv_iconst (v := 1) hx hb dX8_take_74 (by decide) ?_
            refine lv_iadd hx hb dX8_take_75 ?_
            refine lv_topi (fun x75 ex75 => ?_)
            refine va_put (D := (dC, dI)) (ci := 8) (v := .int x75) (ty := .int) (C := RX8) (T := TX8) (N := 20) hx hb hts hinX8 tyX8 tyX8_ok nmX8 hown hK hP hD hS 0 rfl rfl 16 (by decide) hf130 (fun _ h9 => h9) rfl (by decide +kernel) rfl rfl (Nat.le_of_ble_eq_true rfl) dX8_take_76 (fun H locs hP hD hS => ?_)
            obtain ⟨I76, eI76⟩ : ∃ zz : Nat → Int32, zz = va_up I 16 x75 := ⟨_, rfl⟩
            have hP : va_P (dC, dI) vwCl (MW cI cJ cZ R (I76, A, B68)) H := by rw [eI76]; exact hP
            have hD : va_D Aa (MW cI cJ cZ R (I76, A, B68)) := by rw [eI76]; exact hD
            refine lv_iconst (v := 1) hx hb dX8_take_79 (by decide) ?_
            refine hret 80 ls _ _ 1 (I76, A, B68) dX8_take_80 rfl ?_ hP hD hS
            try dsimp only
            refine ?_
            have l1 : ∀ i, i < p2 → rsn rows rd z ≤ rows i := fun i h => by by_cases e : i = p2 - 1; rw [e]; exact c36; exact Nat.le_trans c36 (Nat.le_of_lt (hs.1.mono (by omega) (by omega)))
            refine ⟨rd + 1, insR rows p2 (rsn rows rd z), ⟨by show I76 16 = _; rw [eI76, up_self, ex75, hr.1]; exact nI_1 rd, fun k hk => ?_⟩, hs.ins hp hne l1 (fun i a b => (b2 i a b).2), Or.inr ⟨fun h => hne ((hs.rest z).mpr h), rfl, rfl⟩, fun k hk => by show I76 k = _; rw [eI76, up_ne hk], rfl, fun k hk => by show B68 k = _; rw [eB68, up_ne hk]; exact b3 k hk⟩
            show B68 15 k = _ ∧ _
            rw [eB68, up_self, pcl]
            unfold insR
            by_cases k1 : k < p2
            · rw [if_pos k1, pk_uLn (by omega)]; exact ⟨b1 k k1, (hr.2 k (by omega)).2⟩
            · by_cases k2 : k = p2
              · rw [if_neg k1, if_pos k2, k2, pk_uLs]; exact ⟨rfl, lz⟩
              · rw [if_neg k1, if_neg k2, pk_uLn k2]
                have := b2 (k - 1) (by omega) (by omega)
                rw [show k - 1 + 1 = k by omega] at this
                exact ⟨this.1, (hr.2 (k - 1) (by omega)).2⟩
          · -- 36 not
            rw [lg_cmp_ge] at c36
            rw [pk_lLE lz2 (pwb (hr.2 _ (by omega)).2 hbb)] at c36
            have c36 := Nat.lt_of_not_le c36
            refine lv_aload_n hx hb dX8_take_39 rfl (lv_at hl 0 rfl) ?_
            refine va_get (D := (dC, dI)) (ci := 8) (v := .ref (R 15)) (C := RX8) (T := TX8) (N := 20) hx hb hts hinX8 hown hK hP 0 rfl rfl 15 (by decide) hf45 (fun _ h9 => h9) rfl dX8_take_40 ?_
            refine lv_iload hx hb dX8_take_43 (lv_at hl 3 rfl) ?_
            refine lv_aload_n hx hb dX8_take_45 rfl (lv_at hl 0 rfl) ?_
            refine va_get (D := (dC, dI)) (ci := 8) (v := .ref (R 15)) (C := RX8) (T := TX8) (N := 20) hx hb hts hinX8 hown hK hP 0 rfl rfl 15 (by decide) hf45 (fun _ h9 => h9) rfl dX8_take_46 ?_
            refine lv_iload hx hb dX8_take_49 (lv_at hl 3 rfl) ?_
            refine lv_iconst (v := 1) hx hb dX8_take_51 (by decide) ?_
            refine lv_isub hx hb dX8_take_52 ?_
            refine lv_topi (fun x52 ex52 => ?_)
            have ex52 : x52 = nI (p2 - 1) := by rw [ex52]; exact pk_sub (b := 1) (by omega)
            subst ex52
            have h53 : vp_in (nI (p2 - 1)) 64 := qin
            refine va_lald hx hb hK hP 11 1 rfl rfl h53 dX8_take_53 ?_
            refine lv_topl (fun x53 ex53 => ?_)
            have ex53 : x53 = B_20 15 (nI (p2 - 1)).toNatClampNeg := ex53
            have ex53 : x53 = lN (rows (p2 - 1)) := by rw [ex53, qcl]; exact b1 _ (by omega)
            subst ex53
            have h54 : vp_in (nI p2) 64 := pin
            refine va_last hx hb hK hP hD hS 11 1 rfl rfl h54 dX8_take_54 (fun H locs hP hD hS => ?_)
            obtain ⟨B54, eB54⟩ : ∃ zz : Nat → Nat → Int64, zz = va_up B_20 15 (vp_updL (B_20 15) (nI p2).toNatClampNeg (lN (rows (p2 - 1)))) := ⟨_, rfl⟩
            have hP : va_P (dC, dI) vwCl (MW cI cJ cZ R (I, A, B54)) H := by rw [eB54]; exact hP
            have hD : va_D Aa (MW cI cJ cZ R (I, A, B54)) := by rw [eB54]; exact hD
            obtain ⟨x55, ex55⟩ : ∃ zz : Int32, zz = nI p2 + (-1) := ⟨_, rfl⟩
            refine lv_iinc (v := x55) (lv' := [(5, .int x55), (0, .ref (R 0)), (1, .long (lN z)), (3, .long (lN (rsn rows rd z)))]) hx hb dX8_take_55 hl (k := 3) rfl (by rw [ex55]; rfl) (by decide) rfl (fun ls hl => ?_)
            have ex55 : x55 = nI (p2 - 1) := by rw [ex55, ← Int32.sub_eq_add_neg]; exact pk_sub (b := 1) (by omega)
            subst ex55
            refine lv_goto (tgt := 20) hx hb dX8_take_58 (by decide) ?_
            exact ih20 (p2 - 1) B54 ls _ _ (by omega) ⟨by omega, fun i hi => by rw [eB54, up_self, pcl, pk_uLn (by omega)]; exact b1 i (by omega), fun i a b => by
            rw [eB54, up_self, pcl]
            by_cases e : i = p2 - 1
            · rw [e, show p2 - 1 + 1 = p2 by omega, pk_uLs]; exact ⟨rfl, c36⟩
            · rw [pk_uLn (by omega)]; exact b2 i (by omega) b, fun k hk => by rw [eB54, up_ne hk]; exact b3 k hk⟩ hP hD hS (lv_sub hl [1, 2, 3, 0] rfl)
    exact K20 _ rd B ls _ _ (Nat.lt_succ_self _) ⟨Nat.le_refl _, fun i hi => (hr.2 i hi).1, fun i a b => absurd a (by omega), fun _ _ => rfl⟩ hP hD hS (lv_sub hl [2, 3, 1, 0] rfl)
  · -- 9 not
    rw [lg_cmp_eq] at c9
    have h0 : rsn rows rd z = 0 := (pk_lEQ (b := 0) lz2 (by decide)).mp c9
    refine lv_iconst (v := 0) hx hb dX8_take_12 (by decide) ?_
    refine hret 13 ls _ _ 0 (I, A, B) dX8_take_13 rfl ?_ hP hD hS
    try dsimp only
    exact ⟨rd, rows, hr, hs.same ((hs.rest z).mp h0), Or.inl ⟨(hs.rest z).mp h0, rfl, rfl⟩, fun _ _ => rfl, rfl, fun _ _ => rfl⟩
set_option maxHeartbeats 4000000 in
set_option maxRecDepth 100000 in
theorem k_X8_takeList (l : Launch) (dC : Nat → ClassId) (dI : Nat → Nat → Nat) (cI cJ cZ cII cJJ : ClassId) (R : Nat → Nat) (I : Nat → Int32) (A : Nat → Nat → Int32) (B : Nat → Nat → Int64) (L : Nat) (li : Nat → Nat) (hL : lM L li I B) : ctV l (dC, dI) (tyL cI cJ cZ cII cJJ) (MW cI cJ cZ R) yX8_takeList wsX8_takeList (2, 60) [.ref (R 0)] (I, A, B) (fun u => ∃ rows, rR 40 (rk li L) rows u.1 u.2.2 ∧ rowsS (rk li L) rows (fun a => ∃ jj, jj < L ∧ a = li jj) ∧ (∀ k, k ≠ 16 → u.1 k = I k) ∧ u.2.1 = A ∧ ∀ k, k ≠ 15 → u.2.2 k = B k) := by
  refine ctV_intro (cc := cX8_takeList) (maxL := 3) (by decide) rfl (Nat.le_of_ble_eq_true rfl) ?_
  intro p e s m below meth c ls Aa Q F hK hN hP hD hS hA hl hret
  have hx := F.1
  have hb := F.2.1
  have hown : s.vm.findClass RX8 = some m.cls := F.2.2.2.1
  have hts := F.2.2.2.2
  have hinX8 : ∀ w ∈ wsX80, w ∈ wsX8_takeList := by decide +kernel
  have hf130 := hts (.fieldLink RX8 130 "CycleHouseModel" "rowed" "I") (by decide +kernel)
  have hf143 := hts (.fieldLink RX8 143 "CycleHouseModel" "listed" "I") (by decide +kernel)
  have hf23 := hts (.fieldLink RX8 23 "CycleHouseModel" "list" "[J") (by decide +kernel)
  have hl : lv_has ls 3 [(0, .ref (R 0))] := hl
  refine lv_aload_n hx hb dX8_takeList_0 rfl (lv_at hl 0 rfl) ?_
  refine lv_iconst (v := 0) hx hb dX8_takeList_1 (by decide) ?_
  refine va_put (D := (dC, dI)) (ci := 8) (v := .int 0) (ty := .int) (C := RX8) (T := TX8) (N := 20) hx hb hts hinX8 tyX8 tyX8_ok nmX8 hown hK hP hD hS 0 rfl rfl 16 (by decide) hf130 (fun _ h9 => h9) rfl (by decide +kernel) rfl rfl (Nat.le_of_ble_eq_true rfl) dX8_takeList_2 (fun H locs hP hD hS => ?_)
  obtain ⟨I2, eI2⟩ : ∃ zz : Nat → Int32, zz = va_up I 16 0 := ⟨_, rfl⟩
  have hP : va_P (dC, dI) vwCl (MW cI cJ cZ R (I2, A, B)) H := by rw [eI2]; exact hP
  have hD : va_D Aa (MW cI cJ cZ R (I2, A, B)) := by rw [eI2]; exact hD
  refine lv_iconst (v := 0) hx hb dX8_takeList_5 (by decide) ?_
  refine lv_istore_n (lv' := [(1, .int 0), (0, .ref (R 0))]) hx hb dX8_takeList_6 rfl hl (by decide) rfl (fun ls hl => ?_)
  have K7 : ∀ (kn : Nat) (i : Nat) (I_7 : Nat → Int32) (A_7 : Nat → Nat → Int32) (B_7 : Nat → Nat → Int64) (ls : Array Slot) (H : Heap) (locs : List Loc), L - i < kn → (i ≤ L ∧ (∃ rows, rR 40 (rk li i) rows I_7 B_7 ∧ rowsS (rk li i) rows (fun a => ∃ jj, jj < i ∧ a = li jj)) ∧ (∀ k, k ≠ 16 → I_7 k = I k) ∧ A_7 = A ∧ ∀ k, k ≠ 15 → B_7 k = B k) → va_P (dC, dI) vwCl (MW cI cJ cZ R (I_7, A_7, B_7)) H → va_D Aa (MW cI cJ cZ R (I_7, A_7, B_7)) → va_S Aa s.heap H locs → lv_has ls 3 [(0, .ref (R 0)), (1, .int (nI i))] → W p l e (ctR (2, 60)) s m #[.ref (R 0)] below meth c H locs 0 0 Q (F0 m 7 ls []) := by
    intro kn
    induction kn with
    | zero => intro i I_7 A_7 B_7 ls H locs hmu; exact absurd hmu (Nat.not_lt_zero _)
    | succ kn ih7 =>
      intro i I_7 A_7 B_7 ls H locs mu7 inv7 hP hD hS hl
      obtain ⟨hi, ⟨rows, hr, hs⟩, hI, hA2, hB⟩ := inv7
      have hL2 := hL.2.1
      refine lv_iload_n hx hb dX8_takeList_7 rfl (lv_at hl 1 rfl) ?_
      refine lv_aload_n hx hb dX8_takeList_8 rfl (lv_at hl 0 rfl) ?_
      refine va_get (D := (dC, dI)) (ci := 8) (v := .int (I_7 7)) (C := RX8) (T := TX8) (N := 20) hx hb hts hinX8 hown hK hP 0 rfl rfl 7 (by decide) hf143 (fun _ h9 => h9) rfl dX8_takeList_9 ?_
      refine lv_icmp_ge (tgt := 32) hx hb dX8_takeList_12 (by decide) (fun c12 => ?_) (fun c12 => ?_)
      · -- 12 taken
        rw [show I_7 7 = nI L from (hI 7 (by decide)).trans hL.1, nI_leI (by omega) (by omega)] at c12
        have hge : i = L := by omega
        rw [hge] at hr hs
        refine hret 32 ls _ _ (I_7, A_7, B_7) dX8_takeList_32 ?_ hP hD hS
        try dsimp only
        exact ⟨rows, hr, hs, hI, hA2, hB⟩
      · -- 12 not
        rw [show I_7 7 = nI L from (hI 7 (by decide)).trans hL.1, nI_leI (by omega) (by omega)] at c12
        have icl : (nI i).toNatClampNeg = i := nI_clamp (by omega)
        refine lv_aload_n hx hb dX8_takeList_15 rfl (lv_at hl 0 rfl) ?_
        refine lv_aload_n hx hb dX8_takeList_16 rfl (lv_at hl 0 rfl) ?_
        refine va_get (D := (dC, dI)) (ci := 8) (v := .ref (R 6)) (C := RX8) (T := TX8) (N := 20) hx hb hts hinX8 hown hK hP 0 rfl rfl 6 (by decide) hf23 (fun _ h9 => h9) rfl dX8_takeList_17 ?_
        refine lv_iload_n hx hb dX8_takeList_20 rfl (lv_at hl 1 rfl) ?_
        have h21 : vp_in (nI i) 64 := vp_in_nI (by omega) (by omega)
        refine va_lald hx hb hK hP 4 1 rfl rfl h21 dX8_takeList_21 ?_
        refine lv_topl (fun x21 ex21 => ?_)
        have ex21 : x21 = B_7 6 (nI i).toNatClampNeg := ex21
        have ex21 : x21 = lN (li i) := by rw [ex21, icl, show B_7 6 = B 6 from hB 6 (by decide)]; exact (hL.2.2 i (by omega)).1
        subst ex21
        refine ct_calli hD hS hA (va_runV (As := [.long (lN (li i))]) (rest := []) F ((k_X8_take l dC dI cI cJ cZ cII cJJ R I_7 A_7 B_7 40 (rk li i) rows (fun a => ∃ jj, jj < i ∧ a = li jj) (li i) (Nat.le_refl 40) hr hs (hL.2.2 i (by omega)).2) _) (cwV 1 hts gX8_takeList_X8_take rfl rfl rfl (by decide +kernel) ⟨(Nat.le_of_ble_eq_true rfl), (Nat.le_of_ble_eq_true rfl)⟩) (ct_preV 0 8 hK hN hP hD rfl rfl) rfl rfl hl.1 rfl (lv_room (Nat.le_of_ble_eq_true rfl)) dX8_takeList_22 ⟨(Nat.le_of_ble_eq_true rfl), (Nat.le_of_ble_eq_true rfl)⟩) (fun r22 u22 H locs w22 hP hD hS => ?_)
        obtain ⟨I22, A22, B22⟩ := u22
        obtain ⟨rd2, rows2, t1, t2, t3, t4, t5, t6⟩ := w22
        have erk : rk li (i + 1) = rd2 := t3.elim (fun h => by rw [rk_in h.1, h.2.2]) (fun h => by rw [rk_out h.1, h.2.2])
        refine lv_istore_n (lv' := [(2, .int r22), (0, .ref (R 0)), (1, .int (nI i))]) hx hb dX8_takeList_25 rfl hl (by decide) rfl (fun ls hl => ?_)
        obtain ⟨x26, ex26⟩ : ∃ zz : Int32, zz = nI i + (1) := ⟨_, rfl⟩
        refine lv_iinc (v := x26) (lv' := [(1, .int x26), (2, .int r22), (0, .ref (R 0))]) hx hb dX8_takeList_26 hl (k := 2) rfl (by rw [ex26]; rfl) (by decide) rfl (fun ls hl => ?_)
        have ex26 : x26 = nI (i + 1) := by rw [ex26]; exact nI_1 i
        subst ex26
        refine lv_goto (tgt := 7) hx hb dX8_takeList_29 (by decide) ?_
        exact ih7 (i + 1) I22 A22 B22 ls _ _ (by omega) ⟨by omega, ⟨rows2, by rw [erk]; exact t1, by rw [erk]; exact t2.cong (fun a => lt_split)⟩, fun k hk => (t4 k hk).trans (hI k hk), t5.trans hA2, fun k hk => (t6 k hk).trans (hB k hk)⟩ hP hD hS (lv_sub hl [2, 0] rfl)
  exact K7 _ 0 I2 A B ls _ _ (Nat.lt_succ_self _) ⟨Nat.zero_le _, ⟨fun _ => 0, ⟨by rw [eI2, up_self]; rfl, fun k h => absurd h (Nat.not_lt_zero _)⟩, rowsS_0 _ (fun a ⟨i, h, _⟩ => absurd h (Nat.not_lt_zero _))⟩, fun k hk => by rw [eI2, up_ne hk], rfl, fun _ _ => rfl⟩ hP hD hS (lv_sub hl [1, 0] rfl)
set_option maxHeartbeats 4000000 in
set_option maxRecDepth 100000 in
theorem k_X8_rank (l : Launch) (dC : Nat → ClassId) (dI : Nat → Nat → Nat) (cI cJ cZ cII cJJ : ClassId) (R : Nat → Nat) (I : Nat → Int32) (A : Nat → Nat → Int32) (B : Nat → Nat → Int64) (L : Nat) (li : Nat → Nat) (hL : lM L li I B) : ctI l (dC, dI) (tyL cI cJ cZ cII cJJ) (MW cI cJ cZ R) yX8_rank wsX8_rank (3, 90) [.ref (R 0)] (I, A, B) (fun r u => r = nI (rk li L) ∧ (∀ k, k ≠ 16 → u.1 k = I k) ∧ u.2.1 = A ∧ ∀ k, k ≠ 15 → u.2.2 k = B k) := by
  refine ctI_intro (cc := cX8_rank) (maxL := 1) (by decide) rfl (Nat.le_of_ble_eq_true rfl) ?_
  intro p e s m below meth c ls Aa Q F hK hN hP hD hS hA hl hret
  have hx := F.1
  have hb := F.2.1
  have hown : s.vm.findClass RX8 = some m.cls := F.2.2.2.1
  have hts := F.2.2.2.2
  have hinX8 : ∀ w ∈ wsX80, w ∈ wsX8_rank := by decide +kernel
  have hf130 := hts (.fieldLink RX8 130 "CycleHouseModel" "rowed" "I") (by decide +kernel)
  have hl : lv_has ls 1 [(0, .ref (R 0))] := hl
  refine lv_aload_n hx hb dX8_rank_0 rfl (lv_at hl 0 rfl) ?_
  refine ct_callv hD hS hA (va_runV (As := []) (rest := []) F ((k_X8_takeList l dC dI cI cJ cZ cII cJJ R I A B L li hL) _) (cwV 0 hts gX8_rank_X8_takeList rfl rfl rfl (by decide +kernel) ⟨(Nat.le_of_ble_eq_true rfl), (Nat.le_of_ble_eq_true rfl)⟩) (ct_preV 0 8 hK hN hP hD rfl rfl) rfl rfl hl.1 rfl (lv_room (Nat.le_of_ble_eq_true rfl)) dX8_rank_1 ⟨(Nat.le_of_ble_eq_true rfl), (Nat.le_of_ble_eq_true rfl)⟩) (fun u1 H locs w1 hP hD hS => ?_)
  obtain ⟨I1, A1, B1⟩ := u1
  refine lv_aload_n hx hb dX8_rank_4 rfl (lv_at hl 0 rfl) ?_
  refine va_get (D := (dC, dI)) (ci := 8) (v := .int (I1 16)) (C := RX8) (T := TX8) (N := 20) hx hb hts hinX8 hown hK hP 0 rfl rfl 16 (by decide) hf130 (fun _ h9 => h9) rfl dX8_rank_5 ?_
  refine hret 8 ls _ _ (I1 16) (I1, A1, B1) dX8_rank_8 rfl ?_ hP hD hS
  try dsimp only
  exact (by obtain ⟨rows, a, b, c⟩ := w1; exact ⟨a.1, c⟩)
set_option maxHeartbeats 4000000 in
set_option maxRecDepth 100000 in
theorem k_X8_spans (l : Launch) (dC : Nat → ClassId) (dI : Nat → Nat → Nat) (cI cJ cZ cII cJJ : ClassId) (R : Nat → Nat) (I : Nat → Int32) (A : Nat → Nat → Int32) (B : Nat → Nat → Int64) (L : Nat) (li : Nat → Nat) (z : Nat) (hL : lM L li I B) (hz : z < 2 ^ 64) : ctI l (dC, dI) (tyL cI cJ cZ cII cJJ) (MW cI cJ cZ R) yX8_spans wsX8_spans (3, 90) [.ref (R 0), .long (lN z)] (I, A, B) (fun r u => (z < 2 ^ 40 → u.1 0 = 0 ∧ fP I A B u ∧ ((r = 1 ∧ spS (fun a => ∃ jj, jj < L ∧ a = li jj) z) ∨ (r = 0 ∧ ¬ spS (fun a => ∃ jj, jj < L ∧ a = li jj) z))) ∧ (¬ z < 2 ^ 40 → u.1 0 = 1 ∧ fP I A B u)) := by
  refine ctI_intro (cc := cX8_spans) (maxL := 3) (by decide) rfl (Nat.le_of_ble_eq_true rfl) ?_
  intro p e s m below meth c ls Aa Q F hK hN hP hD hS hA hl hret
  have hx := F.1
  have hb := F.2.1
  have hown : s.vm.findClass RX8 = some m.cls := F.2.2.2.1
  have hts := F.2.2.2.2
  have hinX8 : ∀ w ∈ wsX80, w ∈ wsX8_spans := by decide +kernel
  have hl : lv_has ls 3 [(0, .ref (R 0)), (1, .long (lN z))] := hl
  refine lv_aload_n hx hb dX8_spans_0 rfl (lv_at hl 0 rfl) ?_
  have K15 : ∀ (o : Int32) (ls : Array Slot) (H : Heap) (locs : List Loc), (o = (if z < 2 ^ 40 then 0 else 1)) → va_P (dC, dI) vwCl (MW cI cJ cZ R (I, A, B)) H → va_D Aa (MW cI cJ cZ R (I, A, B)) → va_S Aa s.heap H locs → lv_has ls 3 [(0, .ref (R 0)), (1, .long (lN z))] → W p l e (ctR (3, 90)) s m #[.ref (R 0), .long (lN z)] below meth c H locs 0 0 Q (F0 m 15 ls [.int o, .ref (R 0)]) := by
    intro o ls H locs inv15 hP hD hS hl
    refine lv_iconst (v := 0) hx hb dX8_spans_15 (by decide) ?_
    refine ct_calli hD hS hA (va_runV (As := [.int o, .int 0]) (rest := []) F ((k_X8_throwing l dC dI cI cJ cZ cII cJJ R I A B o 0) _) (cwV 2 hts gX8_spans_X8_throwing rfl rfl rfl (by decide +kernel) ⟨(Nat.le_of_ble_eq_true rfl), (Nat.le_of_ble_eq_true rfl)⟩) (ct_preV 0 8 hK hN hP hD rfl rfl) rfl rfl hl.1 rfl (lv_room (Nat.le_of_ble_eq_true rfl)) dX8_spans_16 ⟨(Nat.le_of_ble_eq_true rfl), (Nat.le_of_ble_eq_true rfl)⟩) (fun r16 u16 H locs w16 hP hD hS => ?_)
    obtain ⟨w16, hu16⟩ := w16
    obtain ⟨I16, A16, B16⟩ := u16
    have eI16 := congrArg (fun z => z.1) hu16
    dsimp only at eI16
    have eA16 : A = A16 := (congrArg (fun z => z.2.1) hu16).symm
    subst eA16
    have eB16 : B = B16 := (congrArg (fun z => z.2.2) hu16).symm
    subst eB16
    clear hu16
    refine lv_if_eq (tgt := 24) hx hb dX8_spans_19 (by decide) (fun c19 => ?_) (fun c19 => ?_)
    · -- 19 taken
      rw [w16, inv15] at c19
      have hv : z < 2 ^ 40 := Classical.byContradiction (fun h => by rw [if_neg h] at c19; exact absurd c19 (by decide))
      have eT : I16 = va_up I 0 0 := by rw [eI16, inv15, if_pos hv]; rfl
      have hLT : lM L li I16 B := ⟨by rw [eT, up_ne (by decide)]; exact hL.1, hL.2⟩
      refine lv_aload_n hx hb dX8_spans_24 rfl (lv_at hl 0 rfl) ?_
      refine ct_callv hD hS hA (va_runV (As := []) (rest := []) F ((k_X8_takeList l dC dI cI cJ cZ cII cJJ R I16 A B L li hLT) _) (cwV 0 hts gX8_spans_X8_takeList rfl rfl rfl (by decide +kernel) ⟨(Nat.le_of_ble_eq_true rfl), (Nat.le_of_ble_eq_true rfl)⟩) (ct_preV 0 8 hK hN hP hD rfl rfl) rfl rfl hl.1 rfl (lv_room (Nat.le_of_ble_eq_true rfl)) dX8_spans_25 ⟨(Nat.le_of_ble_eq_true rfl), (Nat.le_of_ble_eq_true rfl)⟩) (fun u25 H locs w25 hP hD hS => ?_)
      obtain ⟨I25, A25, B25⟩ := u25
      obtain ⟨rows, a1, a2, a3, a4, a5⟩ := w25
      have hk : rk li L ≤ 40 := rowsOK_le a2.1 (fun i hi => (a1.2 i hi).2)
      have e0 : I25 0 = 0 := (a3 0 (by decide)).trans (by rw [eT]; exact up_self)
      have hf : fP I A B (I25, A25, B25) := fP.of (fun k h0 _ h2 => (a3 k h2).trans (by rw [eT, up_ne h0])) (fun k _ _ _ _ => by rw [show A25 = A from a4]) (fun k _ _ _ _ h _ => a5 k h)
      have l1 := pwb (rsn_lt hv (rk li L) (fun j hj => (a1.2 j hj).2)) (Nat.le_refl 40)
      refine lv_aload_n hx hb dX8_spans_28 rfl (lv_at hl 0 rfl) ?_
      refine lv_lload_n hx hb dX8_spans_29 rfl (lv_at hl 1 rfl) ?_
      refine ct_calll hD hS hA (va_runV (As := [.long (lN z)]) (rest := []) F ((k_X8_rest l dC dI cI cJ cZ cII cJJ R I25 A25 B25 40 (rk li L) rows z (Nat.le_refl 40) a1 hk hv) _) (cwV 1 hts gX8_spans_X8_rest rfl rfl rfl (by decide +kernel) ⟨(Nat.le_of_ble_eq_true rfl), (Nat.le_of_ble_eq_true rfl)⟩) (ct_preV 0 8 hK hN hP hD rfl rfl) rfl rfl hl.1 rfl (lv_room (Nat.le_of_ble_eq_true rfl)) dX8_spans_30 ⟨(Nat.le_of_ble_eq_true rfl), (Nat.le_of_ble_eq_true rfl)⟩) (fun r30 u30 H locs w30 hP hD hS => ?_)
      obtain ⟨w30, rfl⟩ := w30
      refine lv_lconst (v := 0) hx hb dX8_spans_33 (by decide) ?_
      refine W.lcmp hx hb dX8_spans_34 ?_
      refine lv_if_ne (tgt := 42) hx hb dX8_spans_35 (by decide) (fun c35 => ?_) (fun c35 => ?_)
      · -- 35 taken
        rw [lg_cmp_eq] at c35
        have c35 : ¬ spS (fun a => ∃ jj, jj < L ∧ a = li jj) z := fun h => c35 (by rw [w30, (a2.rest z).mpr h]; rfl)
        refine lv_iconst (v := 0) hx hb dX8_spans_42 (by decide) ?_
        refine hret 43 ls _ _ 0 (I25, A25, B25) dX8_spans_43 rfl ?_ hP hD hS
        try dsimp only
        exact ⟨fun _ => ⟨e0, hf, Or.inr ⟨rfl, c35⟩⟩, fun h => absurd hv h⟩
      · -- 35 not
        rw [lg_cmp_eq] at c35
        rw [w30] at c35
        have c35 : spS (fun a => ∃ jj, jj < L ∧ a = li jj) z := (a2.rest z).mp ((pk_lEQ (b := 0) l1 (by decide)).mp c35)
        refine lv_iconst (v := 1) hx hb dX8_spans_38 (by decide) ?_
        refine lv_goto (tgt := 43) hx hb dX8_spans_39 (by decide) ?_
        refine hret 43 ls _ _ 1 (I25, A25, B25) dX8_spans_43 rfl ?_ hP hD hS
        try dsimp only
        exact ⟨fun _ => ⟨e0, hf, Or.inl ⟨rfl, c35⟩⟩, fun h => absurd hv h⟩
    · -- 19 not
      rw [w16, inv15] at c19
      have hv : ¬ z < 2 ^ 40 := fun h => by rw [if_pos h] at c19; exact c19 rfl
      have eT : I16 = va_up I 0 1 := by rw [eI16, inv15, if_neg hv]; rfl
      refine lv_iconst (v := 0) hx hb dX8_spans_22 (by decide) ?_
      refine hret 23 ls _ _ 0 (I16, A, B) dX8_spans_23 rfl ?_ hP hD hS
      try dsimp only
      exact ⟨fun h => absurd h hv, fun _ => ⟨by rw [eT]; exact up_self, fP.rf0 eT⟩⟩
  refine lv_lload_n hx hb dX8_spans_1 rfl (lv_at hl 1 rfl) ?_
  refine lv_bipush (v := 40) hx hb dX8_spans_2 (by decide) ?_
  refine lv_lushr hx hb dX8_spans_4 rfl ?_
  refine lv_topl (fun x4 ex4 => ?_)
  refine lv_lconst (v := 0) hx hb dX8_spans_5 (by decide) ?_
  refine W.lcmp hx hb dX8_spans_6 ?_
  refine lv_if_eq (tgt := 14) hx hb dX8_spans_7 (by decide) (fun c7 => ?_) (fun c7 => ?_)
  · -- 7 taken
    rw [lg_cmp_eq] at c7
    rw [ex4] at c7
    have c7 : z < 2 ^ 40 := (nm_set hz (Nat.le_refl 40)).mp c7
    refine lv_iconst (v := 0) hx hb dX8_spans_14 (by decide) ?_
    exact K15 0 ls _ _  (by rw [if_pos c7]) hP hD hS (lv_sub hl [0, 1] rfl)
  · -- 7 not
    rw [lg_cmp_eq] at c7
    rw [ex4] at c7
    have c7 : ¬ z < 2 ^ 40 := fun h => c7 ((nm_set hz (Nat.le_refl 40)).mpr h)
    refine lv_iconst (v := 1) hx hb dX8_spans_10 (by decide) ?_
    refine lv_goto (tgt := 15) hx hb dX8_spans_11 (by decide) ?_
    exact K15 1 ls _ _  (by rw [if_neg c7]) hP hD hS (lv_sub hl [0, 1] rfl)
set_option maxHeartbeats 4000000 in
set_option maxRecDepth 100000 in
theorem k_X8_clear (l : Launch) (dC : Nat → ClassId) (dI : Nat → Nat → Nat) (cI cJ cZ cII cJJ : ClassId) (R : Nat → Nat) (I : Nat → Int32) (A : Nat → Nat → Int32) (B : Nat → Nat → Int64)   : ctI l (dC, dI) (tyL cI cJ cZ cII cJJ) (MW cI cJ cZ R) yX8_clear wsX8_clear (0, 0) [.ref (R 0)] (I, A, B) (fun r u => r = I 7 ∧ u = (va_up (va_up I 0 0) 7 0, A, B)) := by
  refine ctI_intro (cc := cX8_clear) (maxL := 2) (by decide) rfl (Nat.le_of_ble_eq_true rfl) ?_
  intro p e s m below meth c ls Aa Q F hK hN hP hD hS hA hl hret
  have hx := F.1
  have hb := F.2.1
  have hown : s.vm.findClass RX8 = some m.cls := F.2.2.2.1
  have hts := F.2.2.2.2
  have hinX8 : ∀ w ∈ wsX80, w ∈ wsX8_clear := by decide +kernel
  have hf58 := hts (.fieldLink RX8 58 "CycleHouseModel" "thrown" "I") (by decide +kernel)
  have hf143 := hts (.fieldLink RX8 143 "CycleHouseModel" "listed" "I") (by decide +kernel)
  have hl : lv_has ls 2 [(0, .ref (R 0))] := hl
  refine lv_aload_n hx hb dX8_clear_0 rfl (lv_at hl 0 rfl) ?_
  refine lv_iconst (v := 0) hx hb dX8_clear_1 (by decide) ?_
  refine va_put (D := (dC, dI)) (ci := 8) (v := .int 0) (ty := .int) (C := RX8) (T := TX8) (N := 20) hx hb hts hinX8 tyX8 tyX8_ok nmX8 hown hK hP hD hS 0 rfl rfl 0 (by decide) hf58 (fun _ h9 => h9) rfl (by decide +kernel) rfl rfl (Nat.le_of_ble_eq_true rfl) dX8_clear_2 (fun H locs hP hD hS => ?_)
  obtain ⟨I2, eI2⟩ : ∃ zz : Nat → Int32, zz = va_up I 0 0 := ⟨_, rfl⟩
  have hP : va_P (dC, dI) vwCl (MW cI cJ cZ R (I2, A, B)) H := by rw [eI2]; exact hP
  have hD : va_D Aa (MW cI cJ cZ R (I2, A, B)) := by rw [eI2]; exact hD
  refine lv_aload_n hx hb dX8_clear_5 rfl (lv_at hl 0 rfl) ?_
  refine va_get (D := (dC, dI)) (ci := 8) (v := .int (I2 7)) (C := RX8) (T := TX8) (N := 20) hx hb hts hinX8 hown hK hP 0 rfl rfl 7 (by decide) hf143 (fun _ h9 => h9) rfl dX8_clear_6 ?_
  refine lv_istore_n (lv' := [(1, .int (I2 7)), (0, .ref (R 0))]) hx hb dX8_clear_9 rfl hl (by decide) rfl (fun ls hl => ?_)
  refine lv_aload_n hx hb dX8_clear_10 rfl (lv_at hl 1 rfl) ?_
  refine lv_iconst (v := 0) hx hb dX8_clear_11 (by decide) ?_
  refine va_put (D := (dC, dI)) (ci := 8) (v := .int 0) (ty := .int) (C := RX8) (T := TX8) (N := 20) hx hb hts hinX8 tyX8 tyX8_ok nmX8 hown hK hP hD hS 0 rfl rfl 7 (by decide) hf143 (fun _ h9 => h9) rfl (by decide +kernel) rfl rfl (Nat.le_of_ble_eq_true rfl) dX8_clear_12 (fun H locs hP hD hS => ?_)
  obtain ⟨I12, eI12⟩ : ∃ zz : Nat → Int32, zz = va_up I2 7 0 := ⟨_, rfl⟩
  have hP : va_P (dC, dI) vwCl (MW cI cJ cZ R (I12, A, B)) H := by rw [eI12]; exact hP
  have hD : va_D Aa (MW cI cJ cZ R (I12, A, B)) := by rw [eI12]; exact hD
  refine lv_iload_n hx hb dX8_clear_15 rfl (lv_at hl 0 rfl) ?_
  refine hret 16 ls _ _ (I2 7) (I12, A, B) dX8_clear_16 rfl ?_ hP hD hS
  try dsimp only
  exact ⟨by rw [eI2, up_ne (by decide)], by rw [eI12, eI2]⟩
set_option maxHeartbeats 4000000 in
set_option maxRecDepth 100000 in
theorem k_X8_add (l : Launch) (dC : Nat → ClassId) (dI : Nat → Nat → Nat) (cI cJ cZ cII cJJ : ClassId) (R : Nat → Nat) (I : Nat → Int32) (A : Nat → Nat → Int32) (B : Nat → Nat → Int64) (L : Nat) (li : Nat → Nat) (z : Nat) (hL : lM L li I B) (hz : z < 2 ^ 64) : ctI l (dC, dI) (tyL cI cJ cZ cII cJJ) (MW cI cJ cZ R) yX8_add wsX8_add (1, 30) [.ref (R 0), .long (lN z)] (I, A, B) (fun r u => (¬ z < 2 ^ 40 → u = (va_up I 0 1, A, B)) ∧ (z < 2 ^ 40 → L = 64 → u = (va_up I 0 2, A, B)) ∧ (z < 2 ^ 40 → L ≠ 64 → r = nI (L + 1) ∧ u = (va_up (va_up I 0 0) 7 (nI (L + 1)), A, va_up B 6 (vp_updL (B 6) L (lN z))))) := by
  refine ctI_intro (cc := cX8_add) (maxL := 3) (by decide) rfl (Nat.le_of_ble_eq_true rfl) ?_
  intro p e s m below meth c ls Aa Q F hK hN hP hD hS hA hl hret
  have hx := F.1
  have hb := F.2.1
  have hown : s.vm.findClass RX8 = some m.cls := F.2.2.2.1
  have hts := F.2.2.2.2
  have hinX8 : ∀ w ∈ wsX80, w ∈ wsX8_add := by decide +kernel
  have hf143 := hts (.fieldLink RX8 143 "CycleHouseModel" "listed" "I") (by decide +kernel)
  have hf23 := hts (.fieldLink RX8 23 "CycleHouseModel" "list" "[J") (by decide +kernel)
  have hl : lv_has ls 3 [(0, .ref (R 0)), (1, .long (lN z))] := hl
  have hL2 := hL.2.1
  refine lv_aload_n hx hb dX8_add_0 rfl (lv_at hl 0 rfl) ?_
  have K15 : ∀ (o : Int32) (ls : Array Slot) (H : Heap) (locs : List Loc), (o = (if z < 2 ^ 40 then 0 else 1)) → va_P (dC, dI) vwCl (MW cI cJ cZ R (I, A, B)) H → va_D Aa (MW cI cJ cZ R (I, A, B)) → va_S Aa s.heap H locs → lv_has ls 3 [(0, .ref (R 0)), (1, .long (lN z))] → W p l e (ctR (1, 30)) s m #[.ref (R 0), .long (lN z)] below meth c H locs 0 0 Q (F0 m 15 ls [.int o, .ref (R 0)]) := by
    intro o ls H locs inv15 hP hD hS hl
    have K29 : ∀ (t2 : Int32) (ls : Array Slot) (H : Heap) (locs : List Loc), (t2 = (if L = 64 then 1 else 0)) → va_P (dC, dI) vwCl (MW cI cJ cZ R (I, A, B)) H → va_D Aa (MW cI cJ cZ R (I, A, B)) → va_S Aa s.heap H locs → lv_has ls 3 [(0, .ref (R 0)), (1, .long (lN z))] → W p l e (ctR (1, 30)) s m #[.ref (R 0), .long (lN z)] below meth c H locs 0 0 Q (F0 m 29 ls [.int t2, .int o, .ref (R 0)]) := by
      intro t2 ls H locs inv29 hP hD hS hl
      refine ct_calli hD hS hA (va_runV (As := [.int o, .int t2]) (rest := []) F ((k_X8_throwing l dC dI cI cJ cZ cII cJJ R I A B o t2) _) (cwV 2 hts gX8_add_X8_throwing rfl rfl rfl (by decide +kernel) ⟨(Nat.le_of_ble_eq_true rfl), (Nat.le_of_ble_eq_true rfl)⟩) (ct_preV 0 8 hK hN hP hD rfl rfl) rfl rfl hl.1 rfl (lv_room (Nat.le_of_ble_eq_true rfl)) dX8_add_29 ⟨(Nat.le_of_ble_eq_true rfl), (Nat.le_of_ble_eq_true rfl)⟩) (fun r29 u29 H locs w29 hP hD hS => ?_)
      obtain ⟨w29, hu29⟩ := w29
      obtain ⟨I29, A29, B29⟩ := u29
      have eI29 := congrArg (fun z => z.1) hu29
      dsimp only at eI29
      have eA29 : A = A29 := (congrArg (fun z => z.2.1) hu29).symm
      subst eA29
      have eB29 : B = B29 := (congrArg (fun z => z.2.2) hu29).symm
      subst eB29
      clear hu29
      refine lv_if_eq (tgt := 37) hx hb dX8_add_32 (by decide) (fun c32 => ?_) (fun c32 => ?_)
      · -- 32 taken
        rw [w29, inv15, inv29] at c32
        have hv : z < 2 ^ 40 := Classical.byContradiction (fun h => by rw [if_neg h] at c32; simp at c32)
        have hv2 : ¬ L = 64 := fun h => by rw [if_pos hv, if_pos h] at c32; simp at c32
        have eT : I29 = va_up I 0 0 := by rw [eI29, inv15, inv29, if_pos hv, if_neg hv2]; rfl
        have e7 : I29 7 = nI L := by rw [eT, up_ne (by decide)]; exact hL.1
        refine lv_aload_n hx hb dX8_add_37 rfl (lv_at hl 0 rfl) ?_
        refine va_get (D := (dC, dI)) (ci := 8) (v := .ref (R 6)) (C := RX8) (T := TX8) (N := 20) hx hb hts hinX8 hown hK hP 0 rfl rfl 6 (by decide) hf23 (fun _ h9 => h9) rfl dX8_add_38 ?_
        refine lv_aload_n hx hb dX8_add_41 rfl (lv_at hl 0 rfl) ?_
        refine va_get (D := (dC, dI)) (ci := 8) (v := .int (I29 7)) (C := RX8) (T := TX8) (N := 20) hx hb hts hinX8 hown hK hP 0 rfl rfl 7 (by decide) hf143 (fun _ h9 => h9) rfl dX8_add_42 ?_
        refine lv_lload_n hx hb dX8_add_45 rfl (lv_at hl 1 rfl) ?_
        have h46 : vp_in (I29 7) 64 := by rw [e7]; exact vp_in_nI (by omega) (by omega)
        refine va_last hx hb hK hP hD hS 4 1 rfl rfl h46 dX8_add_46 (fun H locs hP hD hS => ?_)
        obtain ⟨B46, eB46⟩ : ∃ zz : Nat → Nat → Int64, zz = va_up B 6 (vp_updL (B 6) (I29 7).toNatClampNeg (lN z)) := ⟨_, rfl⟩
        have hP : va_P (dC, dI) vwCl (MW cI cJ cZ R (I29, A, B46)) H := by rw [eB46]; exact hP
        have hD : va_D Aa (MW cI cJ cZ R (I29, A, B46)) := by rw [eB46]; exact hD
        refine lv_aload_n hx hb dX8_add_47 rfl (lv_at hl 0 rfl) ?_
        refine lv_dup hx hb dX8_add_48 rfl ?_
        refine va_get (D := (dC, dI)) (ci := 8) (v := .int (I29 7)) (C := RX8) (T := TX8) (N := 20) hx hb hts hinX8 hown hK hP 0 rfl rfl 7 (by decide) hf143 (fun _ h9 => h9) rfl dX8_add_49 ?_
        refine lv_iconst (v := 1) hx hb dX8_add_52 (by decide) ?_
        refine lv_iadd hx hb dX8_add_53 ?_
        refine lv_topi (fun x53 ex53 => ?_)
        refine va_put (D := (dC, dI)) (ci := 8) (v := .int x53) (ty := .int) (C := RX8) (T := TX8) (N := 20) hx hb hts hinX8 tyX8 tyX8_ok nmX8 hown hK hP hD hS 0 rfl rfl 7 (by decide) hf143 (fun _ h9 => h9) rfl (by decide +kernel) rfl rfl (Nat.le_of_ble_eq_true rfl) dX8_add_54 (fun H locs hP hD hS => ?_)
        obtain ⟨I54, eI54⟩ : ∃ zz : Nat → Int32, zz = va_up I29 7 x53 := ⟨_, rfl⟩
        have hP : va_P (dC, dI) vwCl (MW cI cJ cZ R (I54, A, B46)) H := by rw [eI54]; exact hP
        have hD : va_D Aa (MW cI cJ cZ R (I54, A, B46)) := by rw [eI54]; exact hD
        refine lv_aload_n hx hb dX8_add_57 rfl (lv_at hl 0 rfl) ?_
        refine va_get (D := (dC, dI)) (ci := 8) (v := .int (I54 7)) (C := RX8) (T := TX8) (N := 20) hx hb hts hinX8 hown hK hP 0 rfl rfl 7 (by decide) hf143 (fun _ h9 => h9) rfl dX8_add_58 ?_
        refine hret 61 ls _ _ (I54 7) (I54, A, B46) dX8_add_61 rfl ?_ hP hD hS
        try dsimp only
        exact ⟨fun h => absurd hv h, fun _ h => absurd h hv2, fun _ _ => ⟨by rw [eI54, up_self, ex53, e7]; exact nI_1 L, by rw [eI54, ex53, e7, nI_1, eT, eB46, e7, nI_clamp (show L < 2 ^ 31 by omega)]⟩⟩
      · -- 32 not
        rw [w29, inv15, inv29] at c32
        refine lv_iconst (v := 0) hx hb dX8_add_35 (by decide) ?_
        refine hret 36 ls _ _ 0 (I29, A, B) dX8_add_36 rfl ?_ hP hD hS
        try dsimp only
        exact ⟨fun h => by rw [eI29, inv15, if_neg h]; rfl, fun h h2 => by rw [eI29, inv15, inv29, if_pos h, if_pos h2]; rfl, fun h h2 => by rw [if_pos h, if_neg h2] at c32; exact absurd rfl c32⟩
    refine lv_aload_n hx hb dX8_add_15 rfl (lv_at hl 0 rfl) ?_
    refine va_get (D := (dC, dI)) (ci := 8) (v := .int (I 7)) (C := RX8) (T := TX8) (N := 20) hx hb hts hinX8 hown hK hP 0 rfl rfl 7 (by decide) hf143 (fun _ h9 => h9) rfl dX8_add_16 ?_
    refine lv_bipush (v := 64) hx hb dX8_add_19 (by decide) ?_
    refine lv_icmp_ne (tgt := 28) hx hb dX8_add_21 (by decide) (fun c21 => ?_) (fun c21 => ?_)
    · -- 21 taken
      have c21 : ¬ L = 64 := fun h => c21 (by rw [hL.1, h]; rfl)
      refine lv_iconst (v := 0) hx hb dX8_add_28 (by decide) ?_
      exact K29 0 ls _ _  (by rw [if_neg c21]) hP hD hS (lv_sub hl [0, 1] rfl)
    · -- 21 not
      have c21 : L = 64 := (nI_eq (by omega) (by omega)).mp (by rw [← hL.1]; exact c21)
      refine lv_iconst (v := 1) hx hb dX8_add_24 (by decide) ?_
      refine lv_goto (tgt := 29) hx hb dX8_add_25 (by decide) ?_
      exact K29 1 ls _ _  (by rw [if_pos c21]) hP hD hS (lv_sub hl [0, 1] rfl)
  refine lv_lload_n hx hb dX8_add_1 rfl (lv_at hl 1 rfl) ?_
  refine lv_bipush (v := 40) hx hb dX8_add_2 (by decide) ?_
  refine lv_lushr hx hb dX8_add_4 rfl ?_
  refine lv_topl (fun x4 ex4 => ?_)
  refine lv_lconst (v := 0) hx hb dX8_add_5 (by decide) ?_
  refine W.lcmp hx hb dX8_add_6 ?_
  refine lv_if_eq (tgt := 14) hx hb dX8_add_7 (by decide) (fun c7 => ?_) (fun c7 => ?_)
  · -- 7 taken
    rw [lg_cmp_eq] at c7
    rw [ex4] at c7
    have c7 : z < 2 ^ 40 := (nm_set hz (Nat.le_refl 40)).mp c7
    refine lv_iconst (v := 0) hx hb dX8_add_14 (by decide) ?_
    exact K15 0 ls _ _  (by rw [if_pos c7]) hP hD hS (lv_sub hl [0, 1] rfl)
  · -- 7 not
    rw [lg_cmp_eq] at c7
    rw [ex4] at c7
    have c7 : ¬ z < 2 ^ 40 := fun h => c7 ((nm_set hz (Nat.le_refl 40)).mpr h)
    refine lv_iconst (v := 1) hx hb dX8_add_10 (by decide) ?_
    refine lv_goto (tgt := 15) hx hb dX8_add_11 (by decide) ?_
    exact K15 1 ls _ _  (by rw [if_neg c7]) hP hD hS (lv_sub hl [0, 1] rfl)
end
section
set_option maxHeartbeats 4000000 in
set_option maxRecDepth 100000 in
theorem k_X8_alone (l : Launch) (dC : Nat → ClassId) (dI : Nat → Nat → Nat) (cI cJ cZ cII cJJ : ClassId) (R : Nat → Nat) (I : Nat → Int32) (A : Nat → Nat → Int32) (B : Nat → Nat → Int64) (nv ne : Nat) (fr to wt : Nat → Nat) (g : gM nv ne fr to wt I A) : ctI l (dC, dI) (tyL cI cJ cZ cII cJJ) (MW cI cJ cZ R) yX8_alone wsX8_alone (2, 60) [.ref (R 0)] (I, A, B) (fun r u => r = nI (alM fr to nv ne ne) ∧ fJ I A B u) := by
  refine ctI_intro (cc := cX8_alone) (maxL := 6) (by decide) rfl (Nat.le_of_ble_eq_true rfl) ?_
  intro p e s m below meth c ls Aa Q F hK hN hP hD hS hA hl hret
  have hx := F.1
  have hb := F.2.1
  have hown : s.vm.findClass RX8 = some m.cls := F.2.2.2.1
  have hts := F.2.2.2.2
  have hinX8 : ∀ w ∈ wsX80, w ∈ wsX8_alone := by decide +kernel
  have hf61 := hts (.fieldLink RX8 61 "CycleHouseModel" "m" "I") (by decide +kernel)
  have hf7 := hts (.fieldLink RX8 7 "CycleHouseModel" "n" "I") (by decide +kernel)
  have hl : lv_has ls 6 [(0, .ref (R 0))] := hl
  refine lv_iconst (v := 0) hx hb dX8_alone_0 (by decide) ?_
  refine lv_istore_n (lv' := [(1, .int 0), (0, .ref (R 0))]) hx hb dX8_alone_1 rfl hl (by decide) rfl (fun ls hl => ?_)
  refine lv_aload_n hx hb dX8_alone_2 rfl (lv_at hl 1 rfl) ?_
  refine ct_calli hD hS hA (va_runV (As := []) (rest := []) F ((k_X8_groups l dC dI cI cJ cZ cII cJJ R I A B nv ne fr to wt g) _) (cwV 0 hts gX8_alone_X8_groups rfl rfl rfl (by decide +kernel) ⟨(Nat.le_of_ble_eq_true rfl), (Nat.le_of_ble_eq_true rfl)⟩) (ct_preV 0 8 hK hN hP hD rfl rfl) rfl rfl hl.1 rfl (lv_room (Nat.le_of_ble_eq_true rfl)) dX8_alone_3 ⟨(Nat.le_of_ble_eq_true rfl), (Nat.le_of_ble_eq_true rfl)⟩) (fun r3 u3 H locs w3 hP hD hS => ?_)
  obtain ⟨I3, A3, B3⟩ := u3
  have er3 : r3 = nI (gc nv (jRun fr to (fl ne) ne)) := w3.1
  subst er3
  refine lv_istore_n (lv' := [(2, .int (nI (gc nv (jRun fr to (fl ne) ne)))), (1, .int 0), (0, .ref (R 0))]) hx hb dX8_alone_6 rfl hl (by decide) rfl (fun ls hl => ?_)
  refine lv_iconst (v := 0) hx hb dX8_alone_7 (by decide) ?_
  refine lv_istore_n (lv' := [(3, .int 0), (2, .int (nI (gc nv (jRun fr to (fl ne) ne)))), (1, .int 0), (0, .ref (R 0))]) hx hb dX8_alone_8 rfl hl (by decide) rfl (fun ls hl => ?_)
  have K9 : ∀ (kn : Nat) (x : Nat) (y : Int32) (I_9 : Nat → Int32) (A_9 : Nat → Nat → Int32) (B_9 : Nat → Nat → Int64) (ls : Array Slot) (H : Heap) (locs : List Loc), ne - x < kn → (x ≤ ne ∧ y = nI (alM fr to nv ne x) ∧ fJ I A B (I_9, A_9, B_9)) → va_P (dC, dI) vwCl (MW cI cJ cZ R (I_9, A_9, B_9)) H → va_D Aa (MW cI cJ cZ R (I_9, A_9, B_9)) → va_S Aa s.heap H locs → lv_has ls 6 [(0, .ref (R 0)), (1, .int y), (2, .int (nI (gc nv (jRun fr to (fl ne) ne)))), (3, .int (nI x))] → W p l e (ctR (2, 60)) s m #[.ref (R 0)] below meth c H locs 0 0 Q (F0 m 9 ls []) := by
    intro kn
    induction kn with
    | zero => intro x y I_9 A_9 B_9 ls H locs hmu; exact absurd hmu (Nat.not_lt_zero _)
    | succ kn ih9 =>
      intro x y I_9 A_9 B_9 ls H locs mu9 inv9 hP hD hS hl
      obtain ⟨hx2, ey, hf⟩ := inv9
      have gg := g.fj hf
      have g3 := g.2.2.1
      have g2 := g.2.1
      refine lv_iload_n hx hb dX8_alone_9 rfl (lv_at hl 3 rfl) ?_
      refine lv_aload_n hx hb dX8_alone_10 rfl (lv_at hl 0 rfl) ?_
      refine va_get (D := (dC, dI)) (ci := 8) (v := .int (I_9 2)) (C := RX8) (T := TX8) (N := 20) hx hb hts hinX8 hown hK hP 0 rfl rfl 2 (by decide) hf61 (fun _ h9 => h9) rfl dX8_alone_11 ?_
      refine lv_icmp_ge (tgt := 90) hx hb dX8_alone_14 (by decide) (fun c14 => ?_) (fun c14 => ?_)
      · -- 14 taken
        rw [show I_9 2 = nI ne from gg.2.2.2.2.1, nI_leI (by omega) (by omega)] at c14
        have hge : x = ne := by omega
        rw [hge] at ey
        refine lv_iload_n hx hb dX8_alone_90 rfl (lv_at hl 1 rfl) ?_
        refine hret 91 ls _ _ y (I_9, A_9, B_9) dX8_alone_91 rfl ?_ hP hD hS
        try dsimp only
        exact ⟨ey, hf⟩
      · -- 14 not
        rw [show I_9 2 = nI ne from gg.2.2.2.2.1, nI_leI (by omega) (by omega)] at c14
        refine lv_aload_n hx hb dX8_alone_17 rfl (lv_at hl 0 rfl) ?_
        refine ct_callv hD hS hA (va_runV (As := []) (rest := []) F ((k_X8_beginGroups l dC dI cI cJ cZ cII cJJ R I_9 A_9 B_9 ) _) (cwV 0 hts gX8_alone_X8_beginGroups rfl rfl rfl (by decide +kernel) ⟨(Nat.le_of_ble_eq_true rfl), (Nat.le_of_ble_eq_true rfl)⟩) (ct_preV 0 8 hK hN hP hD rfl rfl) rfl rfl hl.1 rfl (lv_room (Nat.le_of_ble_eq_true rfl)) dX8_alone_18 ⟨(Nat.le_of_ble_eq_true rfl), (Nat.le_of_ble_eq_true rfl)⟩) (fun u18 H locs w18 hP hD hS => ?_)
        obtain ⟨I18, A18, B18⟩ := u18
        refine lv_aload_n hx hb dX8_alone_21 rfl (lv_at hl 0 rfl) ?_
        refine va_get (D := (dC, dI)) (ci := 8) (v := .int (I18 1)) (C := RX8) (T := TX8) (N := 20) hx hb hts hinX8 hown hK hP 0 rfl rfl 1 (by decide) hf7 (fun _ h9 => h9) rfl dX8_alone_22 ?_
        refine lv_istore (lv' := [(4, .int (I18 1)), (0, .ref (R 0)), (1, .int y), (2, .int (nI (gc nv (jRun fr to (fl ne) ne)))), (3, .int (nI x))]) hx hb dX8_alone_25 hl (by decide) rfl (fun ls hl => ?_)
        refine lv_iconst (v := 0) hx hb dX8_alone_27 (by decide) ?_
        refine lv_istore (lv' := [(5, .int 0), (4, .int (I18 1)), (0, .ref (R 0)), (1, .int y), (2, .int (nI (gc nv (jRun fr to (fl ne) ne)))), (3, .int (nI x))]) hx hb dX8_alone_28 hl (by decide) rfl (fun ls hl => ?_)
        have K30 : ∀ (kn : Nat) (i : Nat) (w : Int32) (I_30 : Nat → Int32) (A_30 : Nat → Nat → Int32) (B_30 : Nat → Nat → Int64) (ls : Array Slot) (H : Heap) (locs : List Loc), ne - i < kn → (i ≤ ne ∧ w = nI (gc nv (jRun fr to (wo ne x) i)) ∧ rJ nv (jRun fr to (wo ne x) i) I_30 A_30 B_30 ∧ fJ I A B (I_30, A_30, B_30)) → va_P (dC, dI) vwCl (MW cI cJ cZ R (I_30, A_30, B_30)) H → va_D Aa (MW cI cJ cZ R (I_30, A_30, B_30)) → va_S Aa s.heap H locs → lv_has ls 6 [(0, .ref (R 0)), (1, .int y), (2, .int (nI (gc nv (jRun fr to (fl ne) ne)))), (3, .int (nI x)), (4, .int w), (5, .int (nI i))] → W p l e (ctR (2, 60)) s m #[.ref (R 0)] below meth c H locs 0 0 Q (F0 m 30 ls []) := by
          intro kn
          induction kn with
          | zero => intro i w I_30 A_30 B_30 ls H locs hmu; exact absurd hmu (Nat.not_lt_zero _)
          | succ kn ih30 =>
            intro i w I_30 A_30 B_30 ls H locs mu30 inv30 hP hD hS hl
            obtain ⟨hi, ew, hq, hf2⟩ := inv30
            have gg := g.fj hf2
            have hin := fun e (he : e < i) (_ : (wo ne x).testBit e = true) => (⟨(gg.2.2.2.2.2 e (by omega)).1.2, (gg.2.2.2.2.2 e (by omega)).2.1.2⟩ : fr e < nv ∧ to e < nv)
            have gl := gc_le nv (jRun fr to (wo ne x) ne)
            have gl2 := gc_le nv (jRun fr to (fl ne) ne)
            refine lv_iload hx hb dX8_alone_30 (lv_at hl 5 rfl) ?_
            refine lv_aload_n hx hb dX8_alone_32 rfl (lv_at hl 0 rfl) ?_
            refine va_get (D := (dC, dI)) (ci := 8) (v := .int (I_30 2)) (C := RX8) (T := TX8) (N := 20) hx hb hts hinX8 hown hK hP 0 rfl rfl 2 (by decide) hf61 (fun _ h9 => h9) rfl dX8_alone_33 ?_
            refine lv_icmp_ge (tgt := 70) hx hb dX8_alone_36 (by decide) (fun c36 => ?_) (fun c36 => ?_)
            · -- 36 taken
              rw [show I_30 2 = nI ne from gg.2.2.2.2.1, nI_leI (by omega) (by omega)] at c36
              have hge : i = ne := by omega
              rw [hge] at ew
              refine lv_iload_n hx hb dX8_alone_70 rfl (lv_at hl 1 rfl) ?_
              refine lv_iload hx hb dX8_alone_71 (lv_at hl 4 rfl) ?_
              refine lv_iload_n hx hb dX8_alone_73 rfl (lv_at hl 2 rfl) ?_
              refine lv_icmp_le (tgt := 81) hx hb dX8_alone_74 (by decide) (fun c74 => ?_) (fun c74 => ?_)
              · -- 74 taken
                rw [ew, nI_leI (by omega) (by omega)] at c74
                refine lv_iconst (v := 0) hx hb dX8_alone_81 (by decide) ?_
                refine lv_iadd hx hb dX8_alone_82 ?_
                refine lv_topi (fun x82 ex82 => ?_)
                refine lv_istore_n (lv' := [(1, .int x82), (0, .ref (R 0)), (2, .int (nI (gc nv (jRun fr to (fl ne) ne)))), (3, .int (nI x)), (4, .int w), (5, .int (nI i))]) hx hb dX8_alone_83 rfl hl (by decide) rfl (fun ls hl => ?_)
                obtain ⟨x84, ex84⟩ : ∃ zz : Int32, zz = nI x + (1) := ⟨_, rfl⟩
                refine lv_iinc (v := x84) (lv' := [(3, .int x84), (1, .int x82), (0, .ref (R 0)), (2, .int (nI (gc nv (jRun fr to (fl ne) ne)))), (4, .int w), (5, .int (nI i))]) hx hb dX8_alone_84 hl (k := 3) rfl (by rw [ex84]; rfl) (by decide) rfl (fun ls hl => ?_)
                have ex84 : x84 = nI (x + 1) := by rw [ex84]; exact nI_1 x
                subst ex84
                refine lv_goto (tgt := 9) hx hb dX8_alone_87 (by decide) ?_
                exact ih9 (x + 1) x82 I_30 A_30 B_30 ls _ _ (by omega) ⟨by omega, by rw [ex82, ey]; unfold alM; rw [ct0_f (decide_eq_false (by omega))]; exact Int32.add_zero _, hf2⟩ hP hD hS (lv_sub hl [2, 1, 3, 0] rfl)
              · -- 74 not
                rw [ew, nI_leI (by omega) (by omega)] at c74
                refine lv_iconst (v := 1) hx hb dX8_alone_77 (by decide) ?_
                refine lv_goto (tgt := 82) hx hb dX8_alone_78 (by decide) ?_
                refine lv_iadd hx hb dX8_alone_82 ?_
                refine lv_topi (fun x82 ex82 => ?_)
                refine lv_istore_n (lv' := [(1, .int x82), (0, .ref (R 0)), (2, .int (nI (gc nv (jRun fr to (fl ne) ne)))), (3, .int (nI x)), (4, .int w), (5, .int (nI i))]) hx hb dX8_alone_83 rfl hl (by decide) rfl (fun ls hl => ?_)
                obtain ⟨x84, ex84⟩ : ∃ zz : Int32, zz = nI x + (1) := ⟨_, rfl⟩
                refine lv_iinc (v := x84) (lv' := [(3, .int x84), (1, .int x82), (0, .ref (R 0)), (2, .int (nI (gc nv (jRun fr to (fl ne) ne)))), (4, .int w), (5, .int (nI i))]) hx hb dX8_alone_84 hl (k := 3) rfl (by rw [ex84]; rfl) (by decide) rfl (fun ls hl => ?_)
                have ex84 : x84 = nI (x + 1) := by rw [ex84]; exact nI_1 x
                subst ex84
                refine lv_goto (tgt := 9) hx hb dX8_alone_87 (by decide) ?_
                exact ih9 (x + 1) x82 I_30 A_30 B_30 ls _ _ (by omega) ⟨by omega, by rw [ex82, ey]; unfold alM; rw [ct0_t (decide_eq_true (by omega))]; exact nI_1 _, hf2⟩ hP hD hS (lv_sub hl [2, 1, 3, 0] rfl)
            · -- 36 not
              rw [show I_30 2 = nI ne from gg.2.2.2.2.1, nI_leI (by omega) (by omega)] at c36
              refine lv_iload hx hb dX8_alone_39 (lv_at hl 5 rfl) ?_
              refine lv_iload_n hx hb dX8_alone_41 rfl (lv_at hl 3 rfl) ?_
              refine lv_icmp_eq (tgt := 64) hx hb dX8_alone_42 (by decide) (fun c42 => ?_) (fun c42 => ?_)
              · -- 42 taken
                have c42 : i = x := (nI_eq (by omega) (by omega)).mp c42
                obtain ⟨x64, ex64⟩ : ∃ zz : Int32, zz = nI i + (1) := ⟨_, rfl⟩
                refine lv_iinc (v := x64) (lv' := [(5, .int x64), (0, .ref (R 0)), (1, .int y), (2, .int (nI (gc nv (jRun fr to (fl ne) ne)))), (3, .int (nI x)), (4, .int w)]) hx hb dX8_alone_64 hl (k := 5) rfl (by rw [ex64]; rfl) (by decide) rfl (fun ls hl => ?_)
                have ex64 : x64 = nI (i + 1) := by rw [ex64]; exact nI_1 i
                subst ex64
                refine lv_goto (tgt := 30) hx hb dX8_alone_67 (by decide) ?_
                exact ih30 (i + 1) w I_30 A_30 B_30 ls _ _ (by omega) ⟨by omega, by rw [jRun_out (fun h => (wo_bit (by omega)).mp h c42)]; exact ew, by rw [jRun_out (fun h => (wo_bit (by omega)).mp h c42)]; exact hq, hf2⟩ hP hD hS (lv_sub hl [1, 2, 3, 4, 5, 0] rfl)
              · -- 42 not
                have hbt : (wo ne x).testBit i = true := (wo_bit (by omega)).mpr (fun h => c42 (by rw [h]))
                refine lv_iload hx hb dX8_alone_45 (lv_at hl 4 rfl) ?_
                refine lv_aload_n hx hb dX8_alone_47 rfl (lv_at hl 0 rfl) ?_
                refine lv_iload hx hb dX8_alone_48 (lv_at hl 5 rfl) ?_
                refine ct_calli hD hS hA (va_runV (As := [.int (nI i)]) (rest := [.int w]) F ((k_X8_joins l dC dI cI cJ cZ cII cJJ R I_30 A_30 B_30 nv ne fr to wt i (jRun fr to (wo ne x) i) gg (by omega) hq (by have := jd_lt (fr := fr) (to := to) (s := (wo ne x)) (k := i); omega)) _) (cwV 1 hts gX8_alone_X8_joins rfl rfl rfl (by decide +kernel) ⟨(Nat.le_of_ble_eq_true rfl), (Nat.le_of_ble_eq_true rfl)⟩) (ct_preV 0 8 hK hN hP hD rfl rfl) rfl rfl hl.1 rfl (lv_room (Nat.le_of_ble_eq_true rfl)) dX8_alone_50 ⟨(Nat.le_of_ble_eq_true rfl), (Nat.le_of_ble_eq_true rfl)⟩) (fun r50 u50 H locs w50 hP hD hS => ?_)
                obtain ⟨I50, A50, B50⟩ := u50
                refine lv_if_eq (tgt := 60) hx hb dX8_alone_53 (by decide) (fun c53 => ?_) (fun c53 => ?_)
                · -- 53 taken
                  rw [w50.1] at c53
                  have c53 : (jRun fr to (wo ne x) i).1 (fr i) = (jRun fr to (wo ne x) i).1 (to i) := Classical.byContradiction (fun h => by rw [if_neg h] at c53; exact absurd c53 (by decide))
                  refine lv_iconst (v := 0) hx hb dX8_alone_60 (by decide) ?_
                  refine lv_isub hx hb dX8_alone_61 ?_
                  refine lv_topi (fun x61 ex61 => ?_)
                  refine lv_istore (lv' := [(4, .int x61), (0, .ref (R 0)), (1, .int y), (2, .int (nI (gc nv (jRun fr to (fl ne) ne)))), (3, .int (nI x)), (5, .int (nI i))]) hx hb dX8_alone_62 hl (by decide) rfl (fun ls hl => ?_)
                  obtain ⟨x64, ex64⟩ : ∃ zz : Int32, zz = nI i + (1) := ⟨_, rfl⟩
                  refine lv_iinc (v := x64) (lv' := [(5, .int x64), (4, .int x61), (0, .ref (R 0)), (1, .int y), (2, .int (nI (gc nv (jRun fr to (fl ne) ne)))), (3, .int (nI x))]) hx hb dX8_alone_64 hl (k := 5) rfl (by rw [ex64]; rfl) (by decide) rfl (fun ls hl => ?_)
                  have ex64 : x64 = nI (i + 1) := by rw [ex64]; exact nI_1 i
                  subst ex64
                  refine lv_goto (tgt := 30) hx hb dX8_alone_67 (by decide) ?_
                  exact ih30 (i + 1) x61 I50 A50 B50 ls _ _ (by omega) ⟨by omega, by rw [jRun_in hbt, gc_close c53, ex61, ew]; exact Int32.sub_zero _, by rw [jRun_in hbt]; exact w50.2.1, hf2.tr w50.2.2⟩ hP hD hS (lv_sub hl [2, 3, 4, 5, 1, 0] rfl)
                · -- 53 not
                  rw [w50.1] at c53
                  have c53 : (jRun fr to (wo ne x) i).1 (fr i) ≠ (jRun fr to (wo ne x) i).1 (to i) := fun h => c53 (if_pos h)
                  refine lv_iconst (v := 1) hx hb dX8_alone_56 (by decide) ?_
                  refine lv_goto (tgt := 61) hx hb dX8_alone_57 (by decide) ?_
                  refine lv_isub hx hb dX8_alone_61 ?_
                  refine lv_topi (fun x61 ex61 => ?_)
                  refine lv_istore (lv' := [(4, .int x61), (0, .ref (R 0)), (1, .int y), (2, .int (nI (gc nv (jRun fr to (fl ne) ne)))), (3, .int (nI x)), (5, .int (nI i))]) hx hb dX8_alone_62 hl (by decide) rfl (fun ls hl => ?_)
                  obtain ⟨x64, ex64⟩ : ∃ zz : Int32, zz = nI i + (1) := ⟨_, rfl⟩
                  refine lv_iinc (v := x64) (lv' := [(5, .int x64), (4, .int x61), (0, .ref (R 0)), (1, .int y), (2, .int (nI (gc nv (jRun fr to (fl ne) ne)))), (3, .int (nI x))]) hx hb dX8_alone_64 hl (k := 5) rfl (by rw [ex64]; rfl) (by decide) rfl (fun ls hl => ?_)
                  have ex64 : x64 = nI (i + 1) := by rw [ex64]; exact nI_1 i
                  subst ex64
                  refine lv_goto (tgt := 30) hx hb dX8_alone_67 (by decide) ?_
                  exact ih30 (i + 1) x61 I50 A50 B50 ls _ _ (by omega) ⟨by omega, by rw [jRun_in hbt, ex61, ew, ← gc_join (e := i) (jI_run i hin) (gg.2.2.2.2.2 i (by omega)).1.2 (gg.2.2.2.2.2 i (by omega)).2.1.2 c53]; exact nI_pred _, by rw [jRun_in hbt]; exact w50.2.1, hf2.tr w50.2.2⟩ hP hD hS (lv_sub hl [2, 3, 4, 5, 1, 0] rfl)
        exact K30 _ 0 (I18 1) I18 A18 B18 ls _ _ (Nat.lt_succ_self _) ⟨Nat.zero_le _, by rw [show I18 1 = nI nv from (g.fj (hf.tr w18.2)).2.2.2.1]; congr 1; exact (ct0_true nv (fun i _ => by show (i == i) = true; simp)).symm, w18.1 nv g2, hf.tr w18.2⟩ hP hD hS (lv_sub hl [2, 3, 4, 5, 1, 0] rfl)
  exact K9 _ 0 0 I3 A3 B3 ls _ _ (Nat.lt_succ_self _) ⟨Nat.zero_le _, rfl, w3.2.2⟩ hP hD hS (lv_sub hl [3, 2, 1, 0] rfl)
set_option maxHeartbeats 4000000 in
set_option maxRecDepth 100000 in
theorem k_X8_parting (l : Launch) (dC : Nat → ClassId) (dI : Nat → Nat → Nat) (cI cJ cZ cII cJJ : ClassId) (R : Nat → Nat) (I : Nat → Int32) (A : Nat → Nat → Int32) (B : Nat → Nat → Int64) (nv ne : Nat) (fr to wt : Nat → Nat) (g : gM nv ne fr to wt I A) : ctI l (dC, dI) (tyL cI cJ cZ cII cJJ) (MW cI cJ cZ R) yX8_parting wsX8_parting (2, 60) [.ref (R 0)] (I, A, B) (fun r u => r = nI (ptM fr to nv ne nv) ∧ fJ I A B u) := by
  refine ctI_intro (cc := cX8_parting) (maxL := 6) (by decide) rfl (Nat.le_of_ble_eq_true rfl) ?_
  intro p e s m below meth c ls Aa Q F hK hN hP hD hS hA hl hret
  have hx := F.1
  have hb := F.2.1
  have hown : s.vm.findClass RX8 = some m.cls := F.2.2.2.1
  have hts := F.2.2.2.2
  have hinX8 : ∀ w ∈ wsX80, w ∈ wsX8_parting := by decide +kernel
  have hf7 := hts (.fieldLink RX8 7 "CycleHouseModel" "n" "I") (by decide +kernel)
  have hf61 := hts (.fieldLink RX8 61 "CycleHouseModel" "m" "I") (by decide +kernel)
  have hf13 := hts (.fieldLink RX8 13 "CycleHouseModel" "from" "[I") (by decide +kernel)
  have hf17 := hts (.fieldLink RX8 17 "CycleHouseModel" "to" "[I") (by decide +kernel)
  have hl : lv_has ls 6 [(0, .ref (R 0))] := hl
  refine lv_iconst (v := 0) hx hb dX8_parting_0 (by decide) ?_
  refine lv_istore_n (lv' := [(1, .int 0), (0, .ref (R 0))]) hx hb dX8_parting_1 rfl hl (by decide) rfl (fun ls hl => ?_)
  refine lv_aload_n hx hb dX8_parting_2 rfl (lv_at hl 1 rfl) ?_
  refine ct_calli hD hS hA (va_runV (As := []) (rest := []) F ((k_X8_groups l dC dI cI cJ cZ cII cJJ R I A B nv ne fr to wt g) _) (cwV 0 hts gX8_parting_X8_groups rfl rfl rfl (by decide +kernel) ⟨(Nat.le_of_ble_eq_true rfl), (Nat.le_of_ble_eq_true rfl)⟩) (ct_preV 0 8 hK hN hP hD rfl rfl) rfl rfl hl.1 rfl (lv_room (Nat.le_of_ble_eq_true rfl)) dX8_parting_3 ⟨(Nat.le_of_ble_eq_true rfl), (Nat.le_of_ble_eq_true rfl)⟩) (fun r3 u3 H locs w3 hP hD hS => ?_)
  obtain ⟨I3, A3, B3⟩ := u3
  have er3 : r3 = nI (gc nv (jRun fr to (fl ne) ne)) := w3.1
  subst er3
  refine lv_istore_n (lv' := [(2, .int (nI (gc nv (jRun fr to (fl ne) ne)))), (1, .int 0), (0, .ref (R 0))]) hx hb dX8_parting_6 rfl hl (by decide) rfl (fun ls hl => ?_)
  refine lv_iconst (v := 0) hx hb dX8_parting_7 (by decide) ?_
  refine lv_istore_n (lv' := [(3, .int 0), (2, .int (nI (gc nv (jRun fr to (fl ne) ne)))), (1, .int 0), (0, .ref (R 0))]) hx hb dX8_parting_8 rfl hl (by decide) rfl (fun ls hl => ?_)
  have K9 : ∀ (kn : Nat) (x : Nat) (y : Int32) (I_9 : Nat → Int32) (A_9 : Nat → Nat → Int32) (B_9 : Nat → Nat → Int64) (ls : Array Slot) (H : Heap) (locs : List Loc), nv - x < kn → (x ≤ nv ∧ y = nI (ptM fr to nv ne x) ∧ fJ I A B (I_9, A_9, B_9)) → va_P (dC, dI) vwCl (MW cI cJ cZ R (I_9, A_9, B_9)) H → va_D Aa (MW cI cJ cZ R (I_9, A_9, B_9)) → va_S Aa s.heap H locs → lv_has ls 6 [(0, .ref (R 0)), (1, .int y), (2, .int (nI (gc nv (jRun fr to (fl ne) ne)))), (3, .int (nI x))] → W p l e (ctR (2, 60)) s m #[.ref (R 0)] below meth c H locs 0 0 Q (F0 m 9 ls []) := by
    intro kn
    induction kn with
    | zero => intro x y I_9 A_9 B_9 ls H locs hmu; exact absurd hmu (Nat.not_lt_zero _)
    | succ kn ih9 =>
      intro x y I_9 A_9 B_9 ls H locs mu9 inv9 hP hD hS hl
      obtain ⟨hx2, ey, hf⟩ := inv9
      have gg := g.fj hf
      have g3 := g.2.2.1
      have g2 := g.2.1
      refine lv_iload_n hx hb dX8_parting_9 rfl (lv_at hl 3 rfl) ?_
      refine lv_aload_n hx hb dX8_parting_10 rfl (lv_at hl 0 rfl) ?_
      refine va_get (D := (dC, dI)) (ci := 8) (v := .int (I_9 1)) (C := RX8) (T := TX8) (N := 20) hx hb hts hinX8 hown hK hP 0 rfl rfl 1 (by decide) hf7 (fun _ h9 => h9) rfl dX8_parting_11 ?_
      refine lv_icmp_ge (tgt := 108) hx hb dX8_parting_14 (by decide) (fun c14 => ?_) (fun c14 => ?_)
      · -- 14 taken
        rw [show I_9 1 = nI nv from gg.2.2.2.1, nI_leI (by omega) (by omega)] at c14
        have hge : x = nv := by omega
        rw [hge] at ey
        refine lv_iload_n hx hb dX8_parting_108 rfl (lv_at hl 1 rfl) ?_
        refine hret 109 ls _ _ y (I_9, A_9, B_9) dX8_parting_109 rfl ?_ hP hD hS
        try dsimp only
        exact ⟨ey, hf⟩
      · -- 14 not
        rw [show I_9 1 = nI nv from gg.2.2.2.1, nI_leI (by omega) (by omega)] at c14
        refine lv_aload_n hx hb dX8_parting_17 rfl (lv_at hl 0 rfl) ?_
        refine ct_callv hD hS hA (va_runV (As := []) (rest := []) F ((k_X8_beginGroups l dC dI cI cJ cZ cII cJJ R I_9 A_9 B_9 ) _) (cwV 0 hts gX8_parting_X8_beginGroups rfl rfl rfl (by decide +kernel) ⟨(Nat.le_of_ble_eq_true rfl), (Nat.le_of_ble_eq_true rfl)⟩) (ct_preV 0 8 hK hN hP hD rfl rfl) rfl rfl hl.1 rfl (lv_room (Nat.le_of_ble_eq_true rfl)) dX8_parting_18 ⟨(Nat.le_of_ble_eq_true rfl), (Nat.le_of_ble_eq_true rfl)⟩) (fun u18 H locs w18 hP hD hS => ?_)
        obtain ⟨I18, A18, B18⟩ := u18
        refine lv_aload_n hx hb dX8_parting_21 rfl (lv_at hl 0 rfl) ?_
        refine va_get (D := (dC, dI)) (ci := 8) (v := .int (I18 1)) (C := RX8) (T := TX8) (N := 20) hx hb hts hinX8 hown hK hP 0 rfl rfl 1 (by decide) hf7 (fun _ h9 => h9) rfl dX8_parting_22 ?_
        refine lv_iconst (v := 1) hx hb dX8_parting_25 (by decide) ?_
        refine lv_isub hx hb dX8_parting_26 ?_
        refine lv_topi (fun x26 ex26 => ?_)
        refine lv_istore (lv' := [(4, .int x26), (0, .ref (R 0)), (1, .int y), (2, .int (nI (gc nv (jRun fr to (fl ne) ne)))), (3, .int (nI x))]) hx hb dX8_parting_27 hl (by decide) rfl (fun ls hl => ?_)
        refine lv_iconst (v := 0) hx hb dX8_parting_29 (by decide) ?_
        refine lv_istore (lv' := [(5, .int 0), (4, .int x26), (0, .ref (R 0)), (1, .int y), (2, .int (nI (gc nv (jRun fr to (fl ne) ne)))), (3, .int (nI x))]) hx hb dX8_parting_30 hl (by decide) rfl (fun ls hl => ?_)
        have K32 : ∀ (kn : Nat) (i : Nat) (w : Int32) (I_32 : Nat → Int32) (A_32 : Nat → Nat → Int32) (B_32 : Nat → Nat → Int64) (ls : Array Slot) (H : Heap) (locs : List Loc), ne - i < kn → (i ≤ ne ∧ w = nI (gc nv (jRun fr to (ap fr to ne x) i)) - 1 ∧ rJ nv (jRun fr to (ap fr to ne x) i) I_32 A_32 B_32 ∧ fJ I A B (I_32, A_32, B_32)) → va_P (dC, dI) vwCl (MW cI cJ cZ R (I_32, A_32, B_32)) H → va_D Aa (MW cI cJ cZ R (I_32, A_32, B_32)) → va_S Aa s.heap H locs → lv_has ls 6 [(0, .ref (R 0)), (1, .int y), (2, .int (nI (gc nv (jRun fr to (fl ne) ne)))), (3, .int (nI x)), (4, .int w), (5, .int (nI i))] → W p l e (ctR (2, 60)) s m #[.ref (R 0)] below meth c H locs 0 0 Q (F0 m 32 ls []) := by
          intro kn
          induction kn with
          | zero => intro i w I_32 A_32 B_32 ls H locs hmu; exact absurd hmu (Nat.not_lt_zero _)
          | succ kn ih32 =>
            intro i w I_32 A_32 B_32 ls H locs mu32 inv32 hP hD hS hl
            obtain ⟨hi, ew, hq, hf2⟩ := inv32
            have gg := g.fj hf2
            have hin := fun e (he : e < i) (_ : (ap fr to ne x).testBit e = true) => (⟨(gg.2.2.2.2.2 e (by omega)).1.2, (gg.2.2.2.2.2 e (by omega)).2.1.2⟩ : fr e < nv ∧ to e < nv)
            have gl := gc_le nv (jRun fr to (ap fr to ne x) ne)
            have gl2 := gc_le nv (jRun fr to (fl ne) ne)
            refine lv_iload hx hb dX8_parting_32 (lv_at hl 5 rfl) ?_
            refine lv_aload_n hx hb dX8_parting_34 rfl (lv_at hl 0 rfl) ?_
            refine va_get (D := (dC, dI)) (ci := 8) (v := .int (I_32 2)) (C := RX8) (T := TX8) (N := 20) hx hb hts hinX8 hown hK hP 0 rfl rfl 2 (by decide) hf61 (fun _ h9 => h9) rfl dX8_parting_35 ?_
            refine lv_icmp_ge (tgt := 88) hx hb dX8_parting_38 (by decide) (fun c38 => ?_) (fun c38 => ?_)
            · -- 38 taken
              rw [show I_32 2 = nI ne from gg.2.2.2.2.1, nI_leI (by omega) (by omega)] at c38
              have hge : i = ne := by omega
              rw [hge] at ew
              have gp := gc_pos (fr := fr) (to := to) (N := nv) (s := ap fr to ne x) (k := ne) (by have := g.1; omega) (fun e he _ => g.en e he)
              have ew : w = nI (gc nv (jRun fr to (ap fr to ne x) ne) - 1) := by rw [ew]; exact pk_sub (b := 1) gp
              refine lv_iload_n hx hb dX8_parting_88 rfl (lv_at hl 1 rfl) ?_
              refine lv_iload hx hb dX8_parting_89 (lv_at hl 4 rfl) ?_
              refine lv_iload_n hx hb dX8_parting_91 rfl (lv_at hl 2 rfl) ?_
              refine lv_icmp_le (tgt := 99) hx hb dX8_parting_92 (by decide) (fun c92 => ?_) (fun c92 => ?_)
              · -- 92 taken
                rw [ew, nI_leI (by omega) (by omega)] at c92
                refine lv_iconst (v := 0) hx hb dX8_parting_99 (by decide) ?_
                refine lv_iadd hx hb dX8_parting_100 ?_
                refine lv_topi (fun x100 ex100 => ?_)
                refine lv_istore_n (lv' := [(1, .int x100), (0, .ref (R 0)), (2, .int (nI (gc nv (jRun fr to (fl ne) ne)))), (3, .int (nI x)), (4, .int w), (5, .int (nI i))]) hx hb dX8_parting_101 rfl hl (by decide) rfl (fun ls hl => ?_)
                obtain ⟨x102, ex102⟩ : ∃ zz : Int32, zz = nI x + (1) := ⟨_, rfl⟩
                refine lv_iinc (v := x102) (lv' := [(3, .int x102), (1, .int x100), (0, .ref (R 0)), (2, .int (nI (gc nv (jRun fr to (fl ne) ne)))), (4, .int w), (5, .int (nI i))]) hx hb dX8_parting_102 hl (k := 3) rfl (by rw [ex102]; rfl) (by decide) rfl (fun ls hl => ?_)
                have ex102 : x102 = nI (x + 1) := by rw [ex102]; exact nI_1 x
                subst ex102
                refine lv_goto (tgt := 9) hx hb dX8_parting_105 (by decide) ?_
                exact ih9 (x + 1) x100 I_32 A_32 B_32 ls _ _ (by omega) ⟨by omega, by rw [ex100, ey]; unfold ptM; rw [ct0_f (decide_eq_false (by omega))]; exact Int32.add_zero _, hf2⟩ hP hD hS (lv_sub hl [2, 1, 3, 0] rfl)
              · -- 92 not
                rw [ew, nI_leI (by omega) (by omega)] at c92
                refine lv_iconst (v := 1) hx hb dX8_parting_95 (by decide) ?_
                refine lv_goto (tgt := 100) hx hb dX8_parting_96 (by decide) ?_
                refine lv_iadd hx hb dX8_parting_100 ?_
                refine lv_topi (fun x100 ex100 => ?_)
                refine lv_istore_n (lv' := [(1, .int x100), (0, .ref (R 0)), (2, .int (nI (gc nv (jRun fr to (fl ne) ne)))), (3, .int (nI x)), (4, .int w), (5, .int (nI i))]) hx hb dX8_parting_101 rfl hl (by decide) rfl (fun ls hl => ?_)
                obtain ⟨x102, ex102⟩ : ∃ zz : Int32, zz = nI x + (1) := ⟨_, rfl⟩
                refine lv_iinc (v := x102) (lv' := [(3, .int x102), (1, .int x100), (0, .ref (R 0)), (2, .int (nI (gc nv (jRun fr to (fl ne) ne)))), (4, .int w), (5, .int (nI i))]) hx hb dX8_parting_102 hl (k := 3) rfl (by rw [ex102]; rfl) (by decide) rfl (fun ls hl => ?_)
                have ex102 : x102 = nI (x + 1) := by rw [ex102]; exact nI_1 x
                subst ex102
                refine lv_goto (tgt := 9) hx hb dX8_parting_105 (by decide) ?_
                exact ih9 (x + 1) x100 I_32 A_32 B_32 ls _ _ (by omega) ⟨by omega, by rw [ex100, ey]; unfold ptM; rw [ct0_t (decide_eq_true (by omega))]; exact nI_1 _, hf2⟩ hP hD hS (lv_sub hl [2, 1, 3, 0] rfl)
            · -- 38 not
              rw [show I_32 2 = nI ne from gg.2.2.2.2.1, nI_leI (by omega) (by omega)] at c38
              have icl : (nI i).toNatClampNeg = i := nI_clamp (by omega)
              have iin : vp_in (nI i) 40 := vp_in_nI (by omega) (by omega)
              have gi := gg.2.2.2.2.2 i (by omega)
              refine lv_aload_n hx hb dX8_parting_41 rfl (lv_at hl 0 rfl) ?_
              refine va_get (D := (dC, dI)) (ci := 8) (v := .ref (R 3)) (C := RX8) (T := TX8) (N := 20) hx hb hts hinX8 hown hK hP 0 rfl rfl 3 (by decide) hf13 (fun _ h9 => h9) rfl dX8_parting_42 ?_
              refine lv_iload hx hb dX8_parting_45 (lv_at hl 5 rfl) ?_
              have h47 : vp_in (nI i) 40 := iin
              refine va_iald hx hb hK hP 1 0 rfl rfl h47 dX8_parting_47 ?_
              refine lv_topi (fun x47 ex47 => ?_)
              have ex47 : x47 = A_32 3 (nI i).toNatClampNeg := ex47
              have ex47 : x47 = nI (fr i) := by rw [ex47, icl]; exact gi.1.1
              subst ex47
              refine lv_iload_n hx hb dX8_parting_48 rfl (lv_at hl 3 rfl) ?_
              refine lv_icmp_eq (tgt := 82) hx hb dX8_parting_49 (by decide) (fun c49 => ?_) (fun c49 => ?_)
              · -- 49 taken
                have c49 : fr i = x := (nI_eq (by omega) (by omega)).mp c49
                obtain ⟨x82, ex82⟩ : ∃ zz : Int32, zz = nI i + (1) := ⟨_, rfl⟩
                refine lv_iinc (v := x82) (lv' := [(5, .int x82), (0, .ref (R 0)), (1, .int y), (2, .int (nI (gc nv (jRun fr to (fl ne) ne)))), (3, .int (nI x)), (4, .int w)]) hx hb dX8_parting_82 hl (k := 5) rfl (by rw [ex82]; rfl) (by decide) rfl (fun ls hl => ?_)
                have ex82 : x82 = nI (i + 1) := by rw [ex82]; exact nI_1 i
                subst ex82
                refine lv_goto (tgt := 32) hx hb dX8_parting_85 (by decide) ?_
                exact ih32 (i + 1) w I_32 A_32 B_32 ls _ _ (by omega) ⟨by omega, by rw [jRun_out (fun h => ((ap_bit (by omega)).mp h).1 c49)]; exact ew, by rw [jRun_out (fun h => ((ap_bit (by omega)).mp h).1 c49)]; exact hq, hf2⟩ hP hD hS (lv_sub hl [1, 2, 3, 4, 5, 0] rfl)
              · -- 49 not
                have c49 : ¬ fr i = x := fun h => c49 (by rw [h])
                refine lv_aload_n hx hb dX8_parting_52 rfl (lv_at hl 0 rfl) ?_
                refine va_get (D := (dC, dI)) (ci := 8) (v := .ref (R 4)) (C := RX8) (T := TX8) (N := 20) hx hb hts hinX8 hown hK hP 0 rfl rfl 4 (by decide) hf17 (fun _ h9 => h9) rfl dX8_parting_53 ?_
                refine lv_iload hx hb dX8_parting_56 (lv_at hl 5 rfl) ?_
                have h58 : vp_in (nI i) 40 := iin
                refine va_iald hx hb hK hP 2 0 rfl rfl h58 dX8_parting_58 ?_
                refine lv_topi (fun x58 ex58 => ?_)
                have ex58 : x58 = A_32 4 (nI i).toNatClampNeg := ex58
                have ex58 : x58 = nI (to i) := by rw [ex58, icl]; exact gi.2.1.1
                subst ex58
                refine lv_iload_n hx hb dX8_parting_59 rfl (lv_at hl 3 rfl) ?_
                refine lv_icmp_eq (tgt := 82) hx hb dX8_parting_60 (by decide) (fun c60 => ?_) (fun c60 => ?_)
                · -- 60 taken
                  have c60 : to i = x := (nI_eq (by omega) (by omega)).mp c60
                  obtain ⟨x82, ex82⟩ : ∃ zz : Int32, zz = nI i + (1) := ⟨_, rfl⟩
                  refine lv_iinc (v := x82) (lv' := [(5, .int x82), (0, .ref (R 0)), (1, .int y), (2, .int (nI (gc nv (jRun fr to (fl ne) ne)))), (3, .int (nI x)), (4, .int w)]) hx hb dX8_parting_82 hl (k := 5) rfl (by rw [ex82]; rfl) (by decide) rfl (fun ls hl => ?_)
                  have ex82 : x82 = nI (i + 1) := by rw [ex82]; exact nI_1 i
                  subst ex82
                  refine lv_goto (tgt := 32) hx hb dX8_parting_85 (by decide) ?_
                  exact ih32 (i + 1) w I_32 A_32 B_32 ls _ _ (by omega) ⟨by omega, by rw [jRun_out (fun h => ((ap_bit (by omega)).mp h).2 c60)]; exact ew, by rw [jRun_out (fun h => ((ap_bit (by omega)).mp h).2 c60)]; exact hq, hf2⟩ hP hD hS (lv_sub hl [1, 2, 3, 4, 5, 0] rfl)
                · -- 60 not
                  have c60 : ¬ to i = x := fun h => c60 (by rw [h])
                  have hbt : (ap fr to ne x).testBit i = true := (ap_bit (by omega)).mpr ⟨c49, c60⟩
                  refine lv_iload hx hb dX8_parting_63 (lv_at hl 4 rfl) ?_
                  refine lv_aload_n hx hb dX8_parting_65 rfl (lv_at hl 0 rfl) ?_
                  refine lv_iload hx hb dX8_parting_66 (lv_at hl 5 rfl) ?_
                  refine ct_calli hD hS hA (va_runV (As := [.int (nI i)]) (rest := [.int w]) F ((k_X8_joins l dC dI cI cJ cZ cII cJJ R I_32 A_32 B_32 nv ne fr to wt i (jRun fr to (ap fr to ne x) i) gg (by omega) hq (by have := jd_lt (fr := fr) (to := to) (s := (ap fr to ne x)) (k := i); omega)) _) (cwV 1 hts gX8_parting_X8_joins rfl rfl rfl (by decide +kernel) ⟨(Nat.le_of_ble_eq_true rfl), (Nat.le_of_ble_eq_true rfl)⟩) (ct_preV 0 8 hK hN hP hD rfl rfl) rfl rfl hl.1 rfl (lv_room (Nat.le_of_ble_eq_true rfl)) dX8_parting_68 ⟨(Nat.le_of_ble_eq_true rfl), (Nat.le_of_ble_eq_true rfl)⟩) (fun r68 u68 H locs w68 hP hD hS => ?_)
                  obtain ⟨I68, A68, B68⟩ := u68
                  refine lv_if_eq (tgt := 78) hx hb dX8_parting_71 (by decide) (fun c71 => ?_) (fun c71 => ?_)
                  · -- 71 taken
                    rw [w68.1] at c71
                    have c71 : (jRun fr to (ap fr to ne x) i).1 (fr i) = (jRun fr to (ap fr to ne x) i).1 (to i) := Classical.byContradiction (fun h => by rw [if_neg h] at c71; exact absurd c71 (by decide))
                    refine lv_iconst (v := 0) hx hb dX8_parting_78 (by decide) ?_
                    refine lv_isub hx hb dX8_parting_79 ?_
                    refine lv_topi (fun x79 ex79 => ?_)
                    refine lv_istore (lv' := [(4, .int x79), (0, .ref (R 0)), (1, .int y), (2, .int (nI (gc nv (jRun fr to (fl ne) ne)))), (3, .int (nI x)), (5, .int (nI i))]) hx hb dX8_parting_80 hl (by decide) rfl (fun ls hl => ?_)
                    obtain ⟨x82, ex82⟩ : ∃ zz : Int32, zz = nI i + (1) := ⟨_, rfl⟩
                    refine lv_iinc (v := x82) (lv' := [(5, .int x82), (4, .int x79), (0, .ref (R 0)), (1, .int y), (2, .int (nI (gc nv (jRun fr to (fl ne) ne)))), (3, .int (nI x))]) hx hb dX8_parting_82 hl (k := 5) rfl (by rw [ex82]; rfl) (by decide) rfl (fun ls hl => ?_)
                    have ex82 : x82 = nI (i + 1) := by rw [ex82]; exact nI_1 i
                    subst ex82
                    refine lv_goto (tgt := 32) hx hb dX8_parting_85 (by decide) ?_
                    exact ih32 (i + 1) x79 I68 A68 B68 ls _ _ (by omega) ⟨by omega, by rw [jRun_in hbt, gc_close c71, ex79, ew]; exact Int32.sub_zero _, by rw [jRun_in hbt]; exact w68.2.1, hf2.tr w68.2.2⟩ hP hD hS (lv_sub hl [2, 3, 4, 5, 1, 0] rfl)
                  · -- 71 not
                    rw [w68.1] at c71
                    have c71 : (jRun fr to (ap fr to ne x) i).1 (fr i) ≠ (jRun fr to (ap fr to ne x) i).1 (to i) := fun h => c71 (if_pos h)
                    refine lv_iconst (v := 1) hx hb dX8_parting_74 (by decide) ?_
                    refine lv_goto (tgt := 79) hx hb dX8_parting_75 (by decide) ?_
                    refine lv_isub hx hb dX8_parting_79 ?_
                    refine lv_topi (fun x79 ex79 => ?_)
                    refine lv_istore (lv' := [(4, .int x79), (0, .ref (R 0)), (1, .int y), (2, .int (nI (gc nv (jRun fr to (fl ne) ne)))), (3, .int (nI x)), (5, .int (nI i))]) hx hb dX8_parting_80 hl (by decide) rfl (fun ls hl => ?_)
                    obtain ⟨x82, ex82⟩ : ∃ zz : Int32, zz = nI i + (1) := ⟨_, rfl⟩
                    refine lv_iinc (v := x82) (lv' := [(5, .int x82), (4, .int x79), (0, .ref (R 0)), (1, .int y), (2, .int (nI (gc nv (jRun fr to (fl ne) ne)))), (3, .int (nI x))]) hx hb dX8_parting_82 hl (k := 5) rfl (by rw [ex82]; rfl) (by decide) rfl (fun ls hl => ?_)
                    have ex82 : x82 = nI (i + 1) := by rw [ex82]; exact nI_1 i
                    subst ex82
                    refine lv_goto (tgt := 32) hx hb dX8_parting_85 (by decide) ?_
                    exact ih32 (i + 1) x79 I68 A68 B68 ls _ _ (by omega) ⟨by omega, by rw [jRun_in hbt, ex79, ew, ← gc_join (e := i) (jI_run i hin) gi.1.2 gi.2.1.2 c71, ← nI_1]; grind, by rw [jRun_in hbt]; exact w68.2.1, hf2.tr w68.2.2⟩ hP hD hS (lv_sub hl [2, 3, 4, 5, 1, 0] rfl)
        exact K32 _ 0 x26 I18 A18 B18 ls _ _ (Nat.lt_succ_self _) ⟨Nat.zero_le _, by rw [ex26, show I18 1 = nI nv from (g.fj (hf.tr w18.2)).2.2.2.1]; congr 2; exact (ct0_true nv (fun i _ => by show (i == i) = true; simp)).symm, w18.1 nv g2, hf.tr w18.2⟩ hP hD hS (lv_sub hl [2, 3, 4, 5, 1, 0] rfl)
  exact K9 _ 0 0 I3 A3 B3 ls _ _ (Nat.lt_succ_self _) ⟨Nat.zero_le _, rfl, w3.2.2⟩ hP hD hS (lv_sub hl [3, 2, 1, 0] rfl)
set_option maxHeartbeats 4000000 in
set_option maxRecDepth 100000 in
theorem k_X8_areEven (l : Launch) (dC : Nat → ClassId) (dI : Nat → Nat → Nat) (cI cJ cZ cII cJJ : ClassId) (R : Nat → Nat) (I : Nat → Int32) (A : Nat → Nat → Int32) (B : Nat → Nat → Int64) (nv ne : Nat) (fr to wt : Nat → Nat) (g : gM nv ne fr to wt I A) : ctI l (dC, dI) (tyL cI cJ cZ cII cJJ) (MW cI cJ cZ R) yX8_areEven wsX8_areEven (2, 60) [.ref (R 0)] (I, A, B) (fun r u => r = (if evM fr to ne (dmA fr to ne) then 1 else 0) ∧ fJ I A B u) := by
  refine ctI_intro (cc := cX8_areEven) (maxL := 6) (by decide) rfl (Nat.le_of_ble_eq_true rfl) ?_
  intro p e s m below meth c ls Aa Q F hK hN hP hD hS hA hl hret
  have hx := F.1
  have hb := F.2.1
  have hown : s.vm.findClass RX8 = some m.cls := F.2.2.2.1
  have hts := F.2.2.2.2
  have hinX8 : ∀ w ∈ wsX80, w ∈ wsX8_areEven := by decide +kernel
  have hf64 := hts (.fieldLink RX8 64 "CycleHouseModel" "closed" "I") (by decide +kernel)
  have hf61 := hts (.fieldLink RX8 61 "CycleHouseModel" "m" "I") (by decide +kernel)
  have hf33 := hts (.fieldLink RX8 33 "CycleHouseModel" "closing" "[J") (by decide +kernel)
  have hl : lv_has ls 6 [(0, .ref (R 0))] := hl
  refine lv_aload_n hx hb dX8_areEven_0 rfl (lv_at hl 0 rfl) ?_
  refine ct_calli hD hS hA (va_runV (As := []) (rest := []) F ((k_X8_groups l dC dI cI cJ cZ cII cJJ R I A B nv ne fr to wt g) _) (cwV 0 hts gX8_areEven_X8_groups rfl rfl rfl (by decide +kernel) ⟨(Nat.le_of_ble_eq_true rfl), (Nat.le_of_ble_eq_true rfl)⟩) (ct_preV 0 8 hK hN hP hD rfl rfl) rfl rfl hl.1 rfl (lv_room (Nat.le_of_ble_eq_true rfl)) dX8_areEven_1 ⟨(Nat.le_of_ble_eq_true rfl), (Nat.le_of_ble_eq_true rfl)⟩) (fun r1 u1 H locs w1 hP hD hS => ?_)
  obtain ⟨I1, A1, B1⟩ := u1
  have er1 : r1 = nI (gc nv (jRun fr to (fl ne) ne)) := w1.1
  subst er1
  have gg := g.fj w1.2.2
  have g3 := g.2.2.1
  have g2 := g.2.1
  have gp := gc_pos (fr := fr) (to := to) (N := nv) (s := fl ne) (k := ne) (by have := g.1; omega) (fun e he _ => g.en e he)
  have gl := gc_le nv (jRun fr to (fl ne) ne)
  have hdd : dmA fr to ne ≤ ne := jd_lt
  refine lv_istore_n (lv' := [(1, .int (nI (gc nv (jRun fr to (fl ne) ne)))), (0, .ref (R 0))]) hx hb dX8_areEven_4 rfl hl (by decide) rfl (fun ls hl => ?_)
  refine lv_iload_n hx hb dX8_areEven_5 rfl (lv_at hl 0 rfl) ?_
  refine lv_if_le (tgt := 13) hx hb dX8_areEven_6 (by decide) (fun c6 => ?_) (fun c6 => ?_)
  · exact absurd c6 (fun h => absurd ((nI_leI (b := 0) (by omega) (by omega)).mp h) (by omega))
  · -- 6 not
    refine lv_iconst (v := 1) hx hb dX8_areEven_9 (by decide) ?_
    refine lv_goto (tgt := 14) hx hb dX8_areEven_10 (by decide) ?_
    refine lv_istore_n (lv' := [(2, .int 1), (1, .int (nI (gc nv (jRun fr to (fl ne) ne)))), (0, .ref (R 0))]) hx hb dX8_areEven_14 rfl hl (by decide) rfl (fun ls hl => ?_)
    refine lv_iconst (v := 0) hx hb dX8_areEven_15 (by decide) ?_
    refine lv_istore_n (lv' := [(3, .int 0), (2, .int 1), (1, .int (nI (gc nv (jRun fr to (fl ne) ne)))), (0, .ref (R 0))]) hx hb dX8_areEven_16 rfl hl (by decide) rfl (fun ls hl => ?_)
    have K17 : ∀ (kn : Nat) (k : Nat) (y : Int32) (ls : Array Slot) (H : Heap) (locs : List Loc), dmA fr to ne - k < kn → (k ≤ dmA fr to ne ∧ y = (if evM fr to ne k then 1 else 0)) → va_P (dC, dI) vwCl (MW cI cJ cZ R (I1, A1, B1)) H → va_D Aa (MW cI cJ cZ R (I1, A1, B1)) → va_S Aa s.heap H locs → lv_has ls 6 [(0, .ref (R 0)), (1, .int (nI (gc nv (jRun fr to (fl ne) ne)))), (2, .int y), (3, .int (nI k))] → W p l e (ctR (2, 60)) s m #[.ref (R 0)] below meth c H locs 0 0 Q (F0 m 17 ls []) := by
      intro kn
      induction kn with
      | zero => intro k y ls H locs hmu; exact absurd hmu (Nat.not_lt_zero _)
      | succ kn ih17 =>
        intro k y ls H locs mu17 inv17 hP hD hS hl
        obtain ⟨hk, ey⟩ := inv17
        refine lv_iload_n hx hb dX8_areEven_17 rfl (lv_at hl 3 rfl) ?_
        refine lv_aload_n hx hb dX8_areEven_18 rfl (lv_at hl 0 rfl) ?_
        refine va_get (D := (dC, dI)) (ci := 8) (v := .int (I1 10)) (C := RX8) (T := TX8) (N := 20) hx hb hts hinX8 hown hK hP 0 rfl rfl 10 (by decide) hf64 (fun _ h9 => h9) rfl dX8_areEven_19 ?_
        refine lv_icmp_ge (tgt := 86) hx hb dX8_areEven_22 (by decide) (fun c22 => ?_) (fun c22 => ?_)
        · -- 22 taken
          rw [show I1 10 = nI (dmA fr to ne) from w1.2.1.2.2.1, nI_leI (by omega) (by omega)] at c22
          have hge : k = dmA fr to ne := by omega
          rw [hge] at ey
          refine lv_iload_n hx hb dX8_areEven_86 rfl (lv_at hl 2 rfl) ?_
          refine hret 87 ls _ _ y (I1, A1, B1) dX8_areEven_87 (by rw [ey]; split <;> rfl) ?_ hP hD hS
          try dsimp only
          exact ⟨ey, w1.2.2⟩
        · -- 22 not
          rw [show I1 10 = nI (dmA fr to ne) from w1.2.1.2.2.1, nI_leI (by omega) (by omega)] at c22
          have kcl : (nI k).toNatClampNeg = k := nI_clamp (by omega)
          have kin : vp_in (nI k) 40 := vp_in_nI (by omega) (by omega)
          have hrl : rgA fr to ne k < 2 ^ 62 := pw40 (Nat.lt_pow_two_of_testBit _ (fun e he => bool_f (fun h => absurd (((jA (by omega) g.en).2.2.2.2.1 k (by show k < dmA fr to ne; omega)).2.2.2.1 e h).1 (by omega)))) g3
          refine lv_iconst (v := 0) hx hb dX8_areEven_25 (by decide) ?_
          refine lv_istore (lv' := [(4, .int 0), (0, .ref (R 0)), (1, .int (nI (gc nv (jRun fr to (fl ne) ne)))), (2, .int y), (3, .int (nI k))]) hx hb dX8_areEven_26 hl (by decide) rfl (fun ls hl => ?_)
          refine lv_iconst (v := 0) hx hb dX8_areEven_28 (by decide) ?_
          refine lv_istore (lv' := [(5, .int 0), (4, .int 0), (0, .ref (R 0)), (1, .int (nI (gc nv (jRun fr to (fl ne) ne)))), (2, .int y), (3, .int (nI k))]) hx hb dX8_areEven_29 hl (by decide) rfl (fun ls hl => ?_)
          have K31 : ∀ (kn : Nat) (i : Nat) (w : Int32) (ls : Array Slot) (H : Heap) (locs : List Loc), ne - i < kn → (i ≤ ne ∧ w = nI (sz (rgA fr to ne k) i)) → va_P (dC, dI) vwCl (MW cI cJ cZ R (I1, A1, B1)) H → va_D Aa (MW cI cJ cZ R (I1, A1, B1)) → va_S Aa s.heap H locs → lv_has ls 6 [(0, .ref (R 0)), (1, .int (nI (gc nv (jRun fr to (fl ne) ne)))), (2, .int y), (3, .int (nI k)), (4, .int w), (5, .int (nI i))] → W p l e (ctR (2, 60)) s m #[.ref (R 0)] below meth c H locs 0 0 Q (F0 m 31 ls []) := by
            intro kn
            induction kn with
            | zero => intro i w ls H locs hmu; exact absurd hmu (Nat.not_lt_zero _)
            | succ kn ih31 =>
              intro i w ls H locs mu31 inv31 hP hD hS hl
              obtain ⟨hi, ew⟩ := inv31
              refine lv_iload hx hb dX8_areEven_31 (lv_at hl 5 rfl) ?_
              refine lv_aload_n hx hb dX8_areEven_33 rfl (lv_at hl 0 rfl) ?_
              refine va_get (D := (dC, dI)) (ci := 8) (v := .int (I1 2)) (C := RX8) (T := TX8) (N := 20) hx hb hts hinX8 hown hK hP 0 rfl rfl 2 (by decide) hf61 (fun _ h9 => h9) rfl dX8_areEven_34 ?_
              refine lv_icmp_ge (tgt := 63) hx hb dX8_areEven_37 (by decide) (fun c37 => ?_) (fun c37 => ?_)
              · -- 37 taken
                rw [show I1 2 = nI ne from gg.2.2.2.2.1, nI_leI (by omega) (by omega)] at c37
                have hge : i = ne := by omega
                rw [hge] at ew
                have hsl := sz_le (rgA fr to ne k) ne
                refine lv_iload_n hx hb dX8_areEven_63 rfl (lv_at hl 2 rfl) ?_
                refine lv_if_eq (tgt := 78) hx hb dX8_areEven_64 (by decide) (fun c64 => ?_) (fun c64 => ?_)
                · -- 64 taken
                  have c64 : ¬ evM fr to ne k := fun h => by rw [ey, if_pos h] at c64; exact absurd c64 (by decide)
                  refine lv_iconst (v := 0) hx hb dX8_areEven_78 (by decide) ?_
                  refine lv_istore_n (lv' := [(2, .int 0), (0, .ref (R 0)), (1, .int (nI (gc nv (jRun fr to (fl ne) ne)))), (3, .int (nI k)), (4, .int w), (5, .int (nI i))]) hx hb dX8_areEven_79 rfl hl (by decide) rfl (fun ls hl => ?_)
                  obtain ⟨x80, ex80⟩ : ∃ zz : Int32, zz = nI k + (1) := ⟨_, rfl⟩
                  refine lv_iinc (v := x80) (lv' := [(3, .int x80), (2, .int 0), (0, .ref (R 0)), (1, .int (nI (gc nv (jRun fr to (fl ne) ne)))), (4, .int w), (5, .int (nI i))]) hx hb dX8_areEven_80 hl (k := 3) rfl (by rw [ex80]; rfl) (by decide) rfl (fun ls hl => ?_)
                  have ex80 : x80 = nI (k + 1) := by rw [ex80]; exact nI_1 k
                  subst ex80
                  refine lv_goto (tgt := 17) hx hb dX8_areEven_83 (by decide) ?_
                  exact ih17 (k + 1) 0 ls _ _ (by omega) ⟨by omega, by rw [if_neg (fun h => c64 (fun i hi => h i (by omega)))]⟩ hP hD hS (lv_sub hl [2, 3, 1, 0] rfl)
                · -- 64 not
                  have c64 : evM fr to ne k := Classical.byContradiction (fun h => by rw [ey, if_neg h] at c64; exact c64 rfl)
                  refine lv_iload hx hb dX8_areEven_67 (lv_at hl 4 rfl) ?_
                  refine lv_iconst (v := 2) hx hb dX8_areEven_69 (by decide) ?_
                  refine lv_irem hx hb dX8_areEven_70 (by decide) ?_
                  refine lv_topi (fun x70 ex70 => ?_)
                  refine lv_if_ne (tgt := 78) hx hb dX8_areEven_71 (by decide) (fun c71 => ?_) (fun c71 => ?_)
                  · -- 71 taken
                    rw [ex70, ew, nm_rem2 (by omega)] at c71
                    have c71 : ¬ sz (rgA fr to ne k) ne % 2 = 0 := fun h => c71 (by rw [h]; rfl)
                    refine lv_iconst (v := 0) hx hb dX8_areEven_78 (by decide) ?_
                    refine lv_istore_n (lv' := [(2, .int 0), (0, .ref (R 0)), (1, .int (nI (gc nv (jRun fr to (fl ne) ne)))), (3, .int (nI k)), (4, .int w), (5, .int (nI i))]) hx hb dX8_areEven_79 rfl hl (by decide) rfl (fun ls hl => ?_)
                    obtain ⟨x80, ex80⟩ : ∃ zz : Int32, zz = nI k + (1) := ⟨_, rfl⟩
                    refine lv_iinc (v := x80) (lv' := [(3, .int x80), (2, .int 0), (0, .ref (R 0)), (1, .int (nI (gc nv (jRun fr to (fl ne) ne)))), (4, .int w), (5, .int (nI i))]) hx hb dX8_areEven_80 hl (k := 3) rfl (by rw [ex80]; rfl) (by decide) rfl (fun ls hl => ?_)
                    have ex80 : x80 = nI (k + 1) := by rw [ex80]; exact nI_1 k
                    subst ex80
                    refine lv_goto (tgt := 17) hx hb dX8_areEven_83 (by decide) ?_
                    exact ih17 (k + 1) 0 ls _ _ (by omega) ⟨by omega, by rw [if_neg (fun h => c71 (h k (by omega)))]⟩ hP hD hS (lv_sub hl [2, 3, 1, 0] rfl)
                  · -- 71 not
                    rw [ex70, ew, nm_rem2 (by omega)] at c71
                    have c71 : sz (rgA fr to ne k) ne % 2 = 0 := (nI_eq (b := 0) (by omega) (by omega)).mp c71
                    refine lv_iconst (v := 1) hx hb dX8_areEven_74 (by decide) ?_
                    refine lv_goto (tgt := 79) hx hb dX8_areEven_75 (by decide) ?_
                    refine lv_istore_n (lv' := [(2, .int 1), (0, .ref (R 0)), (1, .int (nI (gc nv (jRun fr to (fl ne) ne)))), (3, .int (nI k)), (4, .int w), (5, .int (nI i))]) hx hb dX8_areEven_79 rfl hl (by decide) rfl (fun ls hl => ?_)
                    obtain ⟨x80, ex80⟩ : ∃ zz : Int32, zz = nI k + (1) := ⟨_, rfl⟩
                    refine lv_iinc (v := x80) (lv' := [(3, .int x80), (2, .int 1), (0, .ref (R 0)), (1, .int (nI (gc nv (jRun fr to (fl ne) ne)))), (4, .int w), (5, .int (nI i))]) hx hb dX8_areEven_80 hl (k := 3) rfl (by rw [ex80]; rfl) (by decide) rfl (fun ls hl => ?_)
                    have ex80 : x80 = nI (k + 1) := by rw [ex80]; exact nI_1 k
                    subst ex80
                    refine lv_goto (tgt := 17) hx hb dX8_areEven_83 (by decide) ?_
                    exact ih17 (k + 1) 1 ls _ _ (by omega) ⟨by omega, by rw [if_pos (bll_succ.mpr ⟨c64, c71⟩)]⟩ hP hD hS (lv_sub hl [2, 3, 1, 0] rfl)
              · -- 37 not
                rw [show I1 2 = nI ne from gg.2.2.2.2.1, nI_leI (by omega) (by omega)] at c37
                refine lv_iload hx hb dX8_areEven_40 (lv_at hl 4 rfl) ?_
                refine lv_aload_n hx hb dX8_areEven_42 rfl (lv_at hl 0 rfl) ?_
                refine va_get (D := (dC, dI)) (ci := 8) (v := .ref (R 11)) (C := RX8) (T := TX8) (N := 20) hx hb hts hinX8 hown hK hP 0 rfl rfl 11 (by decide) hf33 (fun _ h9 => h9) rfl dX8_areEven_43 ?_
                refine lv_iload_n hx hb dX8_areEven_46 rfl (lv_at hl 3 rfl) ?_
                have h47 : vp_in (nI k) 40 := kin
                refine va_lald hx hb hK hP 7 1 rfl rfl h47 dX8_areEven_47 ?_
                refine lv_topl (fun x47 ex47 => ?_)
                have ex47 : x47 = B1 11 (nI k).toNatClampNeg := ex47
                have ex47 : x47 = lN (rgA fr to ne k) := by rw [ex47, kcl]; exact (w1.2.1.2.2.2 k (by show k < dmA fr to ne; omega)).1
                subst ex47
                refine lv_iload hx hb dX8_areEven_48 (lv_at hl 5 rfl) ?_
                refine lv_lshr hx hb dX8_areEven_50 rfl ?_
                refine lv_topl (fun x50 ex50 => ?_)
                refine lv_lconst (v := 1) hx hb dX8_areEven_51 (by decide) ?_
                refine lv_land hx hb dX8_areEven_52 ?_
                refine lv_topl (fun x52 ex52 => ?_)
                refine lv_l2i hx hb dX8_areEven_53 rfl ?_
                refine lv_topi (fun x53 ex53 => ?_)
                refine lv_iadd hx hb dX8_areEven_54 ?_
                refine lv_topi (fun x54 ex54 => ?_)
                refine lv_istore (lv' := [(4, .int x54), (0, .ref (R 0)), (1, .int (nI (gc nv (jRun fr to (fl ne) ne)))), (2, .int y), (3, .int (nI k)), (5, .int (nI i))]) hx hb dX8_areEven_55 hl (by decide) rfl (fun ls hl => ?_)
                obtain ⟨x57, ex57⟩ : ∃ zz : Int32, zz = nI i + (1) := ⟨_, rfl⟩
                refine lv_iinc (v := x57) (lv' := [(5, .int x57), (4, .int x54), (0, .ref (R 0)), (1, .int (nI (gc nv (jRun fr to (fl ne) ne)))), (2, .int y), (3, .int (nI k))]) hx hb dX8_areEven_57 hl (k := 5) rfl (by rw [ex57]; rfl) (by decide) rfl (fun ls hl => ?_)
                have ex57 : x57 = nI (i + 1) := by rw [ex57]; exact nI_1 i
                subst ex57
                refine lv_goto (tgt := 31) hx hb dX8_areEven_60 (by decide) ?_
                exact ih31 (i + 1) x54 ls _ _ (by omega) ⟨by omega, by rw [ex54, ew, ex53, ex52, ex50, nm_bit hrl (by omega), nm_tb, lN_i, nI_add]; rfl⟩ hP hD hS (lv_sub hl [2, 3, 4, 5, 1, 0] rfl)
          exact K31 _ 0 0 ls _ _ (Nat.lt_succ_self _) ⟨Nat.zero_le _, rfl⟩ hP hD hS (lv_sub hl [2, 3, 4, 5, 1, 0] rfl)
    exact K17 _ 0 1 ls _ _ (Nat.lt_succ_self _) ⟨Nat.zero_le _, by rw [if_pos (fun i h => absurd h (Nat.not_lt_zero _))]⟩ hP hD hS (lv_sub hl [3, 2, 1, 0] rfl)
end
section
set_option maxHeartbeats 4000000 in
set_option maxRecDepth 100000 in
theorem k_X8_look (l : Launch) (dC : Nat → ClassId) (dI : Nat → Nat → Nat) (cI cJ cZ cII cJJ : ClassId) (R : Nat → Nat) (I : Nat → Int32) (A : Nat → Nat → Int32) (B : Nat → Nat → Int64) (nv ne : Nat) (fr to wt : Nat → Nat) (L : Nat) (li : Nat → Nat) (v : Int32) (g : gM nv ne fr to wt I A) (hL : lM L li I B) : ctI l (dC, dI) (tyL cI cJ cZ cII cJJ) (MW cI cJ cZ R) yX8_look wsX8_look (4, 110) [.ref (R 0), .int v] (I, A, B) (fun r u => (∀ k, k < 9 → v = nI k → u.1 0 = 0 ∧ fP I A B u ∧ r = nI (lkM nv ne fr to L li k)) ∧ ((v < 0 ∨ 8 < v) → u.1 0 = 1 ∧ fP I A B u)) := by
  refine ctI_intro (cc := cX8_look) (maxL := 2) (by decide) rfl (Nat.le_of_ble_eq_true rfl) ?_
  intro p e s m below meth c ls Aa Q F hK hN hP hD hS hA hl hret
  have hx := F.1
  have hb := F.2.1
  have hown : s.vm.findClass RX8 = some m.cls := F.2.2.2.1
  have hts := F.2.2.2.2
  have hinX8 : ∀ w ∈ wsX80, w ∈ wsX8_look := by decide +kernel
  have hf7 := hts (.fieldLink RX8 7 "CycleHouseModel" "n" "I") (by decide +kernel)
  have hf61 := hts (.fieldLink RX8 61 "CycleHouseModel" "m" "I") (by decide +kernel)
  have hf143 := hts (.fieldLink RX8 143 "CycleHouseModel" "listed" "I") (by decide +kernel)
  have hl : lv_has ls 2 [(0, .ref (R 0)), (1, .int v)] := hl
  refine lv_aload_n hx hb dX8_look_0 rfl (lv_at hl 0 rfl) ?_
  have K16 : ∀ (o : Int32) (ls : Array Slot) (H : Heap) (locs : List Loc), ((o = 1 ∧ (v < 0 ∨ 8 < v)) ∨ (o = 0 ∧ ∃ k, k < 9 ∧ v = nI k)) → va_P (dC, dI) vwCl (MW cI cJ cZ R (I, A, B)) H → va_D Aa (MW cI cJ cZ R (I, A, B)) → va_S Aa s.heap H locs → lv_has ls 2 [(0, .ref (R 0)), (1, .int v)] → W p l e (ctR (4, 110)) s m #[.ref (R 0), .int v] below meth c H locs 0 0 Q (F0 m 16 ls [.int o, .ref (R 0)]) := by
    intro o ls H locs inv16 hP hD hS hl
    refine lv_iconst (v := 0) hx hb dX8_look_16 (by decide) ?_
    refine ct_calli hD hS hA (va_runV (As := [.int o, .int 0]) (rest := []) F ((k_X8_throwing l dC dI cI cJ cZ cII cJJ R I A B o 0) _) (cwV 2 hts gX8_look_X8_throwing rfl rfl rfl (by decide +kernel) ⟨(Nat.le_of_ble_eq_true rfl), (Nat.le_of_ble_eq_true rfl)⟩) (ct_preV 0 8 hK hN hP hD rfl rfl) rfl rfl hl.1 rfl (lv_room (Nat.le_of_ble_eq_true rfl)) dX8_look_17 ⟨(Nat.le_of_ble_eq_true rfl), (Nat.le_of_ble_eq_true rfl)⟩) (fun r17 u17 H locs w17 hP hD hS => ?_)
    obtain ⟨w17, hu17⟩ := w17
    obtain ⟨I17, A17, B17⟩ := u17
    have eI17 := congrArg (fun z => z.1) hu17
    dsimp only at eI17
    have eA17 : A = A17 := (congrArg (fun z => z.2.1) hu17).symm
    subst eA17
    have eB17 : B = B17 := (congrArg (fun z => z.2.2) hu17).symm
    subst eB17
    clear hu17
    refine lv_if_eq (tgt := 25) hx hb dX8_look_20 (by decide) (fun c20 => ?_) (fun c20 => ?_)
    · -- 20 taken
      have hv : ∃ k, k < 9 ∧ v = nI k := inv16.elim (fun h => by rw [w17, h.1] at c20; exact absurd c20 (by decide)) (fun h => h.2)
      have eo : o = 0 := inv16.elim (fun h => by rw [w17, h.1] at c20; exact absurd c20 (by decide)) (fun h => h.1)
      obtain ⟨k, hk, ev⟩ := hv
      have eT : I17 = va_up I 0 0 := by rw [eI17, eo]; rfl
      have hfT : fP I A B (I17, A, B) := fP.rf0 eT
      have gT := g.fp hfT
      have e0 : I17 0 = 0 := by rw [eT]; exact up_self
      have hLT : lM L li I17 B := ⟨by rw [eT, up_ne (by decide)]; exact hL.1, hL.2⟩
      refine lv_iload_n hx hb dX8_look_25 rfl (lv_at hl 1 rfl) ?_
      have hsw26 : k = 0 ∨ k = 1 ∨ k = 2 ∨ k = 3 ∨ k = 4 ∨ k = 5 ∨ k = 6 ∨ k = 7 ∨ k = 8 := by omega
      rcases hsw26 with hsw | hsw | hsw | hsw | hsw | hsw | hsw | hsw | hsw
      · rw [hsw] at ev
        refine lv_tableIn (off := 46) (tgt := 72) hx hb dX8_look_26 (by rw [ev]; decide) (by rw [ev]; decide) (by rw [ev]; rfl) (by decide) ?_
        refine lv_aload_n hx hb dX8_look_72 rfl (lv_at hl 0 rfl) ?_
        refine va_get (D := (dC, dI)) (ci := 8) (v := .int (I17 1)) (C := RX8) (T := TX8) (N := 20) hx hb hts hinX8 hown hK hP 0 rfl rfl 1 (by decide) hf7 (fun _ h9 => h9) rfl dX8_look_73 ?_
        refine hret 76 ls _ _ (I17 1) (I17, A, B) dX8_look_76 rfl ?_ hP hD hS
        try dsimp only
        exact ⟨fun k2 h2 e2 => by have e3 : k2 = 0 := (nI_eq (by omega) (by omega)).mp (by rw [← e2, ev]); subst e3; exact ⟨e0, hfT, gT.2.2.2.1⟩, fun h => by rw [ev] at h; exact absurd h (by decide)⟩
      · rw [hsw] at ev
        refine lv_tableIn (off := 51) (tgt := 77) hx hb dX8_look_26 (by rw [ev]; decide) (by rw [ev]; decide) (by rw [ev]; rfl) (by decide) ?_
        refine lv_aload_n hx hb dX8_look_77 rfl (lv_at hl 0 rfl) ?_
        refine va_get (D := (dC, dI)) (ci := 8) (v := .int (I17 2)) (C := RX8) (T := TX8) (N := 20) hx hb hts hinX8 hown hK hP 0 rfl rfl 2 (by decide) hf61 (fun _ h9 => h9) rfl dX8_look_78 ?_
        refine hret 81 ls _ _ (I17 2) (I17, A, B) dX8_look_81 rfl ?_ hP hD hS
        try dsimp only
        exact ⟨fun k2 h2 e2 => by have e3 : k2 = 1 := (nI_eq (by omega) (by omega)).mp (by rw [← e2, ev]); subst e3; exact ⟨e0, hfT, gT.2.2.2.2.1⟩, fun h => by rw [ev] at h; exact absurd h (by decide)⟩
      · rw [hsw] at ev
        refine lv_tableIn (off := 56) (tgt := 82) hx hb dX8_look_26 (by rw [ev]; decide) (by rw [ev]; decide) (by rw [ev]; rfl) (by decide) ?_
        refine lv_aload_n hx hb dX8_look_82 rfl (lv_at hl 0 rfl) ?_
        refine ct_calli hD hS hA (va_runV (As := []) (rest := []) F ((k_X8_groups l dC dI cI cJ cZ cII cJJ R I17 A B nv ne fr to wt gT) _) (cwV 0 hts gX8_look_X8_groups rfl rfl rfl (by decide +kernel) ⟨(Nat.le_of_ble_eq_true rfl), (Nat.le_of_ble_eq_true rfl)⟩) (ct_preV 0 8 hK hN hP hD rfl rfl) rfl rfl hl.1 rfl (lv_room (Nat.le_of_ble_eq_true rfl)) dX8_look_83 ⟨(Nat.le_of_ble_eq_true rfl), (Nat.le_of_ble_eq_true rfl)⟩) (fun r83 u83 H locs w83 hP hD hS => ?_)
        obtain ⟨I83, A83, B83⟩ := u83
        refine hret 86 ls _ _ r83 (I83, A83, B83) dX8_look_86 rfl ?_ hP hD hS
        try dsimp only
        exact ⟨fun k2 h2 e2 => by have e3 : k2 = 2 := (nI_eq (by omega) (by omega)).mp (by rw [← e2, ev]); subst e3; exact ⟨(w83.2.2.1 0 (by decide)).trans e0, hfT.tr w83.2.2.fp, w83.1⟩, fun h => by rw [ev] at h; exact absurd h (by decide)⟩
      · rw [hsw] at ev
        refine lv_tableIn (off := 61) (tgt := 87) hx hb dX8_look_26 (by rw [ev]; decide) (by rw [ev]; decide) (by rw [ev]; rfl) (by decide) ?_
        refine lv_aload_n hx hb dX8_look_87 rfl (lv_at hl 0 rfl) ?_
        refine ct_calli hD hS hA (va_runV (As := []) (rest := []) F ((k_X8_dimension l dC dI cI cJ cZ cII cJJ R I17 A B nv ne fr to wt gT) _) (cwV 0 hts gX8_look_X8_dimension rfl rfl rfl (by decide +kernel) ⟨(Nat.le_of_ble_eq_true rfl), (Nat.le_of_ble_eq_true rfl)⟩) (ct_preV 0 8 hK hN hP hD rfl rfl) rfl rfl hl.1 rfl (lv_room (Nat.le_of_ble_eq_true rfl)) dX8_look_88 ⟨(Nat.le_of_ble_eq_true rfl), (Nat.le_of_ble_eq_true rfl)⟩) (fun r88 u88 H locs w88 hP hD hS => ?_)
        obtain ⟨I88, A88, B88⟩ := u88
        refine hret 91 ls _ _ r88 (I88, A88, B88) dX8_look_91 rfl ?_ hP hD hS
        try dsimp only
        exact ⟨fun k2 h2 e2 => by have e3 : k2 = 3 := (nI_eq (by omega) (by omega)).mp (by rw [← e2, ev]); subst e3; exact ⟨(w88.2.2.1 0 (by decide)).trans e0, hfT.tr w88.2.2.fp, w88.1⟩, fun h => by rw [ev] at h; exact absurd h (by decide)⟩
      · rw [hsw] at ev
        refine lv_tableIn (off := 66) (tgt := 92) hx hb dX8_look_26 (by rw [ev]; decide) (by rw [ev]; decide) (by rw [ev]; rfl) (by decide) ?_
        refine lv_aload_n hx hb dX8_look_92 rfl (lv_at hl 0 rfl) ?_
        refine ct_calli hD hS hA (va_runV (As := []) (rest := []) F ((k_X8_alone l dC dI cI cJ cZ cII cJJ R I17 A B nv ne fr to wt gT) _) (cwV 0 hts gX8_look_X8_alone rfl rfl rfl (by decide +kernel) ⟨(Nat.le_of_ble_eq_true rfl), (Nat.le_of_ble_eq_true rfl)⟩) (ct_preV 0 8 hK hN hP hD rfl rfl) rfl rfl hl.1 rfl (lv_room (Nat.le_of_ble_eq_true rfl)) dX8_look_93 ⟨(Nat.le_of_ble_eq_true rfl), (Nat.le_of_ble_eq_true rfl)⟩) (fun r93 u93 H locs w93 hP hD hS => ?_)
        obtain ⟨I93, A93, B93⟩ := u93
        refine hret 96 ls _ _ r93 (I93, A93, B93) dX8_look_96 rfl ?_ hP hD hS
        try dsimp only
        exact ⟨fun k2 h2 e2 => by have e3 : k2 = 4 := (nI_eq (by omega) (by omega)).mp (by rw [← e2, ev]); subst e3; exact ⟨(w93.2.1 0 (by decide)).trans e0, hfT.tr w93.2.fp, w93.1⟩, fun h => by rw [ev] at h; exact absurd h (by decide)⟩
      · rw [hsw] at ev
        refine lv_tableIn (off := 71) (tgt := 97) hx hb dX8_look_26 (by rw [ev]; decide) (by rw [ev]; decide) (by rw [ev]; rfl) (by decide) ?_
        refine lv_aload_n hx hb dX8_look_97 rfl (lv_at hl 0 rfl) ?_
        refine ct_calli hD hS hA (va_runV (As := []) (rest := []) F ((k_X8_areEven l dC dI cI cJ cZ cII cJJ R I17 A B nv ne fr to wt gT) _) (cwV 0 hts gX8_look_X8_areEven rfl rfl rfl (by decide +kernel) ⟨(Nat.le_of_ble_eq_true rfl), (Nat.le_of_ble_eq_true rfl)⟩) (ct_preV 0 8 hK hN hP hD rfl rfl) rfl rfl hl.1 rfl (lv_room (Nat.le_of_ble_eq_true rfl)) dX8_look_98 ⟨(Nat.le_of_ble_eq_true rfl), (Nat.le_of_ble_eq_true rfl)⟩) (fun r98 u98 H locs w98 hP hD hS => ?_)
        obtain ⟨I98, A98, B98⟩ := u98
        refine lv_if_eq (tgt := 108) hx hb dX8_look_101 (by decide) (fun c101 => ?_) (fun c101 => ?_)
        · -- 101 taken
          have c101 : ¬ evM fr to ne (dmA fr to ne) := fun h => by rw [w98.1, if_pos h] at c101; exact absurd c101 (by decide)
          refine lv_iconst (v := 0) hx hb dX8_look_108 (by decide) ?_
          refine hret 109 ls _ _ 0 (I98, A98, B98) dX8_look_109 rfl ?_ hP hD hS
          try dsimp only
          exact ⟨fun k2 h2 e2 => by have e3 : k2 = 5 := (nI_eq (by omega) (by omega)).mp (by rw [← e2, ev]); subst e3; exact ⟨(w98.2.1 0 (by decide)).trans e0, hfT.tr w98.2.fp, by show (0 : Int32) = nI (if evM fr to ne (dmA fr to ne) then 1 else 0); rw [if_neg c101]; rfl⟩, fun h => by rw [ev] at h; exact absurd h (by decide)⟩
        · -- 101 not
          have c101 : evM fr to ne (dmA fr to ne) := Classical.byContradiction (fun h => by rw [w98.1, if_neg h] at c101; exact c101 rfl)
          refine lv_iconst (v := 1) hx hb dX8_look_104 (by decide) ?_
          refine lv_goto (tgt := 109) hx hb dX8_look_105 (by decide) ?_
          refine hret 109 ls _ _ 1 (I98, A98, B98) dX8_look_109 rfl ?_ hP hD hS
          try dsimp only
          exact ⟨fun k2 h2 e2 => by have e3 : k2 = 5 := (nI_eq (by omega) (by omega)).mp (by rw [← e2, ev]); subst e3; exact ⟨(w98.2.1 0 (by decide)).trans e0, hfT.tr w98.2.fp, by show (1 : Int32) = nI (if evM fr to ne (dmA fr to ne) then 1 else 0); rw [if_pos c101]; rfl⟩, fun h => by rw [ev] at h; exact absurd h (by decide)⟩
      · rw [hsw] at ev
        refine lv_tableIn (off := 84) (tgt := 110) hx hb dX8_look_26 (by rw [ev]; decide) (by rw [ev]; decide) (by rw [ev]; rfl) (by decide) ?_
        refine lv_aload_n hx hb dX8_look_110 rfl (lv_at hl 0 rfl) ?_
        refine va_get (D := (dC, dI)) (ci := 8) (v := .int (I17 7)) (C := RX8) (T := TX8) (N := 20) hx hb hts hinX8 hown hK hP 0 rfl rfl 7 (by decide) hf143 (fun _ h9 => h9) rfl dX8_look_111 ?_
        refine hret 114 ls _ _ (I17 7) (I17, A, B) dX8_look_114 rfl ?_ hP hD hS
        try dsimp only
        exact ⟨fun k2 h2 e2 => by have e3 : k2 = 6 := (nI_eq (by omega) (by omega)).mp (by rw [← e2, ev]); subst e3; exact ⟨e0, hfT, hLT.1⟩, fun h => by rw [ev] at h; exact absurd h (by decide)⟩
      · rw [hsw] at ev
        refine lv_tableIn (off := 89) (tgt := 115) hx hb dX8_look_26 (by rw [ev]; decide) (by rw [ev]; decide) (by rw [ev]; rfl) (by decide) ?_
        refine lv_aload_n hx hb dX8_look_115 rfl (lv_at hl 0 rfl) ?_
        refine ct_calli hD hS hA (va_runV (As := []) (rest := []) F ((k_X8_rank l dC dI cI cJ cZ cII cJJ R I17 A B L li hLT) _) (cwV 0 hts gX8_look_X8_rank rfl rfl rfl (by decide +kernel) ⟨(Nat.le_of_ble_eq_true rfl), (Nat.le_of_ble_eq_true rfl)⟩) (ct_preV 0 8 hK hN hP hD rfl rfl) rfl rfl hl.1 rfl (lv_room (Nat.le_of_ble_eq_true rfl)) dX8_look_116 ⟨(Nat.le_of_ble_eq_true rfl), (Nat.le_of_ble_eq_true rfl)⟩) (fun r116 u116 H locs w116 hP hD hS => ?_)
        obtain ⟨I116, A116, B116⟩ := u116
        refine hret 119 ls _ _ r116 (I116, A116, B116) dX8_look_119 rfl ?_ hP hD hS
        try dsimp only
        exact ⟨fun k2 h2 e2 => by have e3 : k2 = 7 := (nI_eq (by omega) (by omega)).mp (by rw [← e2, ev]); subst e3; exact ⟨(w116.2.1 0 (by decide)).trans e0, hfT.tr (fP.of (fun k _ _ h => w116.2.1 k h) (fun k _ _ _ _ => by rw [show A116 = A from w116.2.2.1]) (fun k _ _ _ _ h _ => w116.2.2.2 k h)), w116.1⟩, fun h => by rw [ev] at h; exact absurd h (by decide)⟩
      · rw [hsw] at ev
        refine lv_tableOut (tgt := 120) hx hb dX8_look_26 (by rw [ev]; decide) (by decide) ?_
        refine lv_aload_n hx hb dX8_look_120 rfl (lv_at hl 0 rfl) ?_
        refine ct_calli hD hS hA (va_runV (As := []) (rest := []) F ((k_X8_parting l dC dI cI cJ cZ cII cJJ R I17 A B nv ne fr to wt gT) _) (cwV 0 hts gX8_look_X8_parting rfl rfl rfl (by decide +kernel) ⟨(Nat.le_of_ble_eq_true rfl), (Nat.le_of_ble_eq_true rfl)⟩) (ct_preV 0 8 hK hN hP hD rfl rfl) rfl rfl hl.1 rfl (lv_room (Nat.le_of_ble_eq_true rfl)) dX8_look_121 ⟨(Nat.le_of_ble_eq_true rfl), (Nat.le_of_ble_eq_true rfl)⟩) (fun r121 u121 H locs w121 hP hD hS => ?_)
        obtain ⟨I121, A121, B121⟩ := u121
        refine hret 124 ls _ _ r121 (I121, A121, B121) dX8_look_124 rfl ?_ hP hD hS
        try dsimp only
        exact ⟨fun k2 h2 e2 => by have e3 : k2 = 8 := (nI_eq (by omega) (by omega)).mp (by rw [← e2, ev]); subst e3; exact ⟨(w121.2.1 0 (by decide)).trans e0, hfT.tr w121.2.fp, w121.1⟩, fun h => by rw [ev] at h; exact absurd h (by decide)⟩
    · -- 20 not
      have hv : o = 1 ∧ (v < 0 ∨ 8 < v) := inv16.elim id (fun h => by rw [w17, h.1] at c20; exact absurd rfl c20)
      have eT : I17 = va_up I 0 1 := by rw [eI17, hv.1]; rfl
      refine lv_iconst (v := 0) hx hb dX8_look_23 (by decide) ?_
      refine hret 24 ls _ _ 0 (I17, A, B) dX8_look_24 rfl ?_ hP hD hS
      try dsimp only
      exact ⟨fun k hk he => by rw [he] at hv; exact hv.2.elim (fun h => absurd h (nI_pos (by omega))) (fun h => absurd ((nI_ltI (a := 8) (by omega) (by omega)).mp h) (by omega)), fun _ => ⟨by rw [eT]; exact up_self, fP.rf0 eT⟩⟩
  refine lv_iload_n hx hb dX8_look_1 rfl (lv_at hl 1 rfl) ?_
  refine lv_if_lt (tgt := 11) hx hb dX8_look_2 (by decide) (fun c2 => ?_) (fun c2 => ?_)
  · -- 2 taken
    refine lv_iconst (v := 1) hx hb dX8_look_11 (by decide) ?_
    refine lv_goto (tgt := 16) hx hb dX8_look_12 (by decide) ?_
    exact K16 1 ls _ _  (Or.inl ⟨rfl, Or.inl c2⟩) hP hD hS (lv_sub hl [0, 1] rfl)
  · -- 2 not
    refine lv_iload_n hx hb dX8_look_5 rfl (lv_at hl 1 rfl) ?_
    refine lv_bipush (v := 8) hx hb dX8_look_6 (by decide) ?_
    refine lv_icmp_le (tgt := 15) hx hb dX8_look_8 (by decide) (fun c8 => ?_) (fun c8 => ?_)
    · -- 8 taken
      refine lv_iconst (v := 0) hx hb dX8_look_15 (by decide) ?_
      exact K16 0 ls _ _  (Or.inr ⟨rfl, by obtain ⟨j, hj, ej⟩ := nI_of c2; exact ⟨j, by have := (nI_leI (b := 8) hj (by omega)).mp (by rw [← ej]; exact c8); omega, ej⟩⟩) hP hD hS (lv_sub hl [0, 1] rfl)
    · -- 8 not
      refine lv_iconst (v := 1) hx hb dX8_look_11 (by decide) ?_
      refine lv_goto (tgt := 16) hx hb dX8_look_12 (by decide) ?_
      exact K16 1 ls _ _  (Or.inl ⟨rfl, Or.inr (Int32.not_le.mp c8)⟩) hP hD hS (lv_sub hl [0, 1] rfl)
set_option maxHeartbeats 4000000 in
set_option maxRecDepth 100000 in
theorem k_X8_belongs (l : Launch) (dC : Nat → ClassId) (dI : Nat → Nat → Nat) (cI cJ cZ cII cJJ : ClassId) (R : Nat → Nat) (I : Nat → Int32) (A : Nat → Nat → Int32) (B : Nat → Nat → Int64) (nv ne : Nat) (fr to wt : Nat → Nat) (z : Nat) (g : gM nv ne fr to wt I A) (hd : dmA fr to ne ≤ 14) (hz : z < 2 ^ 64) : ctI l (dC, dI) (tyL cI cJ cZ cII cJJ) (MW cI cJ cZ R) yX8_belongs wsX8_belongs (4, 110) [.ref (R 0), .long (lN z)] (I, A, B) (fun r u => (z < 2 ^ ne → u.1 0 = 0 ∧ fP I A B u ∧ ((r = 1 ∧ z ≠ 0 ∧ evn fr to nv ne z ∧ ¬ spS (fun a => (1 ≤ a ∧ a < 2 ^ dmA fr to ne) ∧ wsum wt (elA fr to ne a) ne < wsum wt (elA fr to ne (nb (fun i => z.testBit (czA fr to ne i)) (dmA fr to ne))) ne) (nb (fun i => z.testBit (czA fr to ne i)) (dmA fr to ne))) ∨ (r = 0 ∧ ¬ (z ≠ 0 ∧ evn fr to nv ne z ∧ ¬ spS (fun a => (1 ≤ a ∧ a < 2 ^ dmA fr to ne) ∧ wsum wt (elA fr to ne a) ne < wsum wt (elA fr to ne (nb (fun i => z.testBit (czA fr to ne i)) (dmA fr to ne))) ne) (nb (fun i => z.testBit (czA fr to ne i)) (dmA fr to ne)))))) ∧ (¬ z < 2 ^ ne → u.1 0 = 1 ∧ fP I A B u)) := by
  refine ctI_intro (cc := cX8_belongs) (maxL := 7) (by decide) rfl (Nat.le_of_ble_eq_true rfl) ?_
  intro p e s m below meth c ls Aa Q F hK hN hP hD hS hA hl hret
  have hx := F.1
  have hb := F.2.1
  have hown : s.vm.findClass RX8 = some m.cls := F.2.2.2.1
  have hts := F.2.2.2.2
  have hinX8 : ∀ w ∈ wsX80, w ∈ wsX8_belongs := by decide +kernel
  have hf130 := hts (.fieldLink RX8 130 "CycleHouseModel" "rowed" "I") (by decide +kernel)
  have hf42 := hts (.fieldLink RX8 42 "CycleHouseModel" "weights" "[J") (by decide +kernel)
  have hl : lv_has ls 7 [(0, .ref (R 0)), (1, .long (lN z))] := hl
  refine lv_aload_n hx hb dX8_belongs_0 rfl (lv_at hl 0 rfl) ?_
  refine lv_aload_n hx hb dX8_belongs_1 rfl (lv_at hl 0 rfl) ?_
  refine lv_lload_n hx hb dX8_belongs_2 rfl (lv_at hl 1 rfl) ?_
  have K14 : ∀ (o : Int32) (ls : Array Slot) (H : Heap) (locs : List Loc), (o = (if z < 2 ^ ne then 0 else 1)) → va_P (dC, dI) vwCl (MW cI cJ cZ R (I, A, B)) H → va_D Aa (MW cI cJ cZ R (I, A, B)) → va_S Aa s.heap H locs → lv_has ls 7 [(0, .ref (R 0)), (1, .long (lN z))] → W p l e (ctR (4, 110)) s m #[.ref (R 0), .long (lN z)] below meth c H locs 0 0 Q (F0 m 14 ls [.int o, .ref (R 0)]) := by
    intro o ls H locs inv14 hP hD hS hl
    refine lv_iconst (v := 0) hx hb dX8_belongs_14 (by decide) ?_
    refine ct_calli hD hS hA (va_runV (As := [.int o, .int 0]) (rest := []) F ((k_X8_throwing l dC dI cI cJ cZ cII cJJ R I A B o 0) _) (cwV 2 hts gX8_belongs_X8_throwing rfl rfl rfl (by decide +kernel) ⟨(Nat.le_of_ble_eq_true rfl), (Nat.le_of_ble_eq_true rfl)⟩) (ct_preV 0 8 hK hN hP hD rfl rfl) rfl rfl hl.1 rfl (lv_room (Nat.le_of_ble_eq_true rfl)) dX8_belongs_15 ⟨(Nat.le_of_ble_eq_true rfl), (Nat.le_of_ble_eq_true rfl)⟩) (fun r15 u15 H locs w15 hP hD hS => ?_)
    obtain ⟨w15, hu15⟩ := w15
    obtain ⟨I15, A15, B15⟩ := u15
    have eI15 := congrArg (fun z => z.1) hu15
    dsimp only at eI15
    have eA15 : A = A15 := (congrArg (fun z => z.2.1) hu15).symm
    subst eA15
    have eB15 : B = B15 := (congrArg (fun z => z.2.2) hu15).symm
    subst eB15
    clear hu15
    refine lv_if_eq (tgt := 23) hx hb dX8_belongs_18 (by decide) (fun c18 => ?_) (fun c18 => ?_)
    · -- 18 taken
      rw [w15, inv14] at c18
      have hv : z < 2 ^ ne := Classical.byContradiction (fun h => by rw [if_neg h] at c18; exact absurd c18 (by decide))
      have hz2 : z < 2 ^ 62 := pw40 hv g.2.2.1
      have eT : I15 = va_up I 0 0 := by rw [eI15, inv14, if_pos hv]; rfl
      have hfT : fP I A B (I15, A, B) := fP.rf0 eT
      have gT := g.fp hfT
      have e0 : I15 0 = 0 := by rw [eT]; exact up_self
      refine lv_lload_n hx hb dX8_belongs_23 rfl (lv_at hl 1 rfl) ?_
      refine lv_lconst (v := 0) hx hb dX8_belongs_24 (by decide) ?_
      refine W.lcmp hx hb dX8_belongs_25 ?_
      refine lv_if_eq (tgt := 37) hx hb dX8_belongs_26 (by decide) (fun c26 => ?_) (fun c26 => ?_)
      · -- 26 taken
        rw [lg_cmp_eq] at c26
        have c26 : z = 0 := (pk_lEQ (b := 0) (by omega) (by omega)).mp c26
        refine lv_iconst (v := 0) hx hb dX8_belongs_37 (by decide) ?_
        refine hret 38 ls _ _ 0 (I15, A, B) dX8_belongs_38 rfl ?_ hP hD hS
        try dsimp only
        exact ⟨fun _ => ⟨e0, hfT, Or.inr ⟨rfl, fun h => h.1 c26⟩⟩, fun h => absurd hv h⟩
      · -- 26 not
        rw [lg_cmp_eq] at c26
        have c26 : z ≠ 0 := fun h => c26 (by rw [h]; rfl)
        refine lv_aload_n hx hb dX8_belongs_29 rfl (lv_at hl 0 rfl) ?_
        refine lv_lload_n hx hb dX8_belongs_30 rfl (lv_at hl 1 rfl) ?_
        refine ct_calli hD hS hA (va_runV (As := [.long (lN z)]) (rest := []) F ((k_X8_isEven l dC dI cI cJ cZ cII cJJ R I15 A B nv ne fr to wt z gT hz2) _) (cwV 1 hts gX8_belongs_X8_isEven rfl rfl rfl (by decide +kernel) ⟨(Nat.le_of_ble_eq_true rfl), (Nat.le_of_ble_eq_true rfl)⟩) (ct_preV 0 8 hK hN hP hD rfl rfl) rfl rfl hl.1 rfl (lv_room (Nat.le_of_ble_eq_true rfl)) dX8_belongs_31 ⟨(Nat.le_of_ble_eq_true rfl), (Nat.le_of_ble_eq_true rfl)⟩) (fun r31 u31 H locs w31 hP hD hS => ?_)
        obtain ⟨w31, rfl⟩ := w31
        refine lv_if_ne (tgt := 39) hx hb dX8_belongs_34 (by decide) (fun c34 => ?_) (fun c34 => ?_)
        · -- 34 taken
          have c34 : evn fr to nv ne z := Classical.byContradiction (fun h => by rw [w31, if_neg h] at c34; exact c34 rfl)
          refine lv_aload_n hx hb dX8_belongs_39 rfl (lv_at hl 0 rfl) ?_
          refine ct_calli hD hS hA (va_runV (As := []) (rest := []) F ((k_X8_spread l dC dI cI cJ cZ cII cJJ R I15 A B nv ne fr to wt gT hd) _) (cwV 0 hts gX8_belongs_X8_spread rfl rfl rfl (by decide +kernel) ⟨(Nat.le_of_ble_eq_true rfl), (Nat.le_of_ble_eq_true rfl)⟩) (ct_preV 0 8 hK hN hP hD rfl rfl) rfl rfl hl.1 rfl (lv_room (Nat.le_of_ble_eq_true rfl)) dX8_belongs_40 ⟨(Nat.le_of_ble_eq_true rfl), (Nat.le_of_ble_eq_true rfl)⟩) (fun r40 u40 H locs w40 hP hD hS => ?_)
          obtain ⟨I40, A40, B40⟩ := u40
          have er40 : r40 = nI (2 ^ dmA fr to ne) := w40.1
          subst er40
          have hpw := pw14 hd
          have hel := w40.2.1
          have gs := gT.fs w40.2.2.2
          have hnl := nb_lt (fun i => z.testBit (czA fr to ne i)) (dmA fr to ne)
          refine lv_istore_n (lv' := [(3, .int (nI (2 ^ dmA fr to ne))), (0, .ref (R 0)), (1, .long (lN z))]) hx hb dX8_belongs_43 rfl hl (by decide) rfl (fun ls hl => ?_)
          refine lv_aload_n hx hb dX8_belongs_44 rfl (lv_at hl 1 rfl) ?_
          refine lv_lload_n hx hb dX8_belongs_45 rfl (lv_at hl 2 rfl) ?_
          refine ct_calli hD hS hA (va_runV (As := [.long (lN z)]) (rest := []) F ((k_X8_numberOf l dC dI cI cJ cZ cII cJJ R I40 A40 B40 nv ne fr to wt z gs hz2 hd w40.2.2.1) _) (cwV 1 hts gX8_belongs_X8_numberOf rfl rfl rfl (by decide +kernel) ⟨(Nat.le_of_ble_eq_true rfl), (Nat.le_of_ble_eq_true rfl)⟩) (ct_preV 0 8 hK hN hP hD rfl rfl) rfl rfl hl.1 rfl (lv_room (Nat.le_of_ble_eq_true rfl)) dX8_belongs_46 ⟨(Nat.le_of_ble_eq_true rfl), (Nat.le_of_ble_eq_true rfl)⟩) (fun r46 u46 H locs w46 hP hD hS => ?_)
          obtain ⟨w46, rfl⟩ := w46
          have er46 : r46 = nI (nb (fun i => z.testBit (czA fr to ne i)) (dmA fr to ne)) := w46
          subst er46
          refine lv_istore (lv' := [(4, .int (nI (nb (fun i => z.testBit (czA fr to ne i)) (dmA fr to ne)))), (3, .int (nI (2 ^ dmA fr to ne))), (0, .ref (R 0)), (1, .long (lN z))]) hx hb dX8_belongs_49 hl (by decide) rfl (fun ls hl => ?_)
          refine lv_aload_n hx hb dX8_belongs_51 rfl (lv_at hl 2 rfl) ?_
          refine lv_iconst (v := 0) hx hb dX8_belongs_52 (by decide) ?_
          refine va_put (D := (dC, dI)) (ci := 8) (v := .int 0) (ty := .int) (C := RX8) (T := TX8) (N := 20) hx hb hts hinX8 tyX8 tyX8_ok nmX8 hown hK hP hD hS 0 rfl rfl 16 (by decide) hf130 (fun _ h9 => h9) rfl (by decide +kernel) rfl rfl (Nat.le_of_ble_eq_true rfl) dX8_belongs_53 (fun H locs hP hD hS => ?_)
          obtain ⟨I53, eI53⟩ : ∃ zz : Nat → Int32, zz = va_up I40 16 0 := ⟨_, rfl⟩
          have hP : va_P (dC, dI) vwCl (MW cI cJ cZ R (I53, A40, B40)) H := by rw [eI53]; exact hP
          have hD : va_D Aa (MW cI cJ cZ R (I53, A40, B40)) := by rw [eI53]; exact hD
          refine lv_iconst (v := 1) hx hb dX8_belongs_56 (by decide) ?_
          refine lv_istore (lv' := [(5, .int 1), (4, .int (nI (nb (fun i => z.testBit (czA fr to ne i)) (dmA fr to ne)))), (3, .int (nI (2 ^ dmA fr to ne))), (0, .ref (R 0)), (1, .long (lN z))]) hx hb dX8_belongs_57 hl (by decide) rfl (fun ls hl => ?_)
          have K59 : ∀ (kn : Nat) (i : Nat) (I_59 : Nat → Int32) (B_59 : Nat → Nat → Int64) (ls : Array Slot) (H : Heap) (locs : List Loc), 2 ^ (dmA fr to ne) - i < kn → (1 ≤ i ∧ i ≤ 2 ^ dmA fr to ne ∧ (∃ rd rows, rR 14 rd rows I_59 B_59 ∧ rowsS rd rows (fun a => (1 ≤ a ∧ a < i) ∧ wsum wt (elA fr to ne a) ne < wsum wt (elA fr to ne (nb (fun i => z.testBit (czA fr to ne i)) (dmA fr to ne))) ne)) ∧ (∀ k, k ≠ 16 → I_59 k = I40 k) ∧ ∀ k, k ≠ 15 → B_59 k = B40 k) → va_P (dC, dI) vwCl (MW cI cJ cZ R (I_59, A40, B_59)) H → va_D Aa (MW cI cJ cZ R (I_59, A40, B_59)) → va_S Aa s.heap H locs → lv_has ls 7 [(0, .ref (R 0)), (1, .long (lN z)), (3, .int (nI (2 ^ dmA fr to ne))), (4, .int (nI (nb (fun i => z.testBit (czA fr to ne i)) (dmA fr to ne)))), (5, .int (nI i))] → W p l e (ctR (4, 110)) s m #[.ref (R 0), .long (lN z)] below meth c H locs 0 0 Q (F0 m 59 ls []) := by
            intro kn
            induction kn with
            | zero => intro i I_59 B_59 ls H locs hmu; exact absurd hmu (Nat.not_lt_zero _)
            | succ kn ih59 =>
              intro i I_59 B_59 ls H locs mu59 inv59 hP hD hS hl
              obtain ⟨h1, hi, ⟨rd, rows, hr, hs⟩, hI, hB⟩ := inv59
              have hk : rd ≤ 14 := rowsOK_le hs.1 (fun i hi => (hr.2 i hi).2)
              refine lv_iload hx hb dX8_belongs_59 (lv_at hl 4 rfl) ?_
              refine lv_iload_n hx hb dX8_belongs_61 rfl (lv_at hl 2 rfl) ?_
              refine lv_icmp_ge (tgt := 101) hx hb dX8_belongs_62 (by decide) (fun c62 => ?_) (fun c62 => ?_)
              · -- 62 taken
                rw [nI_leI (by omega) (by omega)] at c62
                have hge : i = 2 ^ dmA fr to ne := by omega
                rw [hge] at hs
                have n14 : nb (fun i => z.testBit (czA fr to ne i)) (dmA fr to ne) < 2 ^ 14 := by omega
                have e0f : I_59 0 = 0 := (hI 0 (by decide)).trans ((w40.2.2.2.1 0 (by decide)).trans e0)
                have hff : fP I A B (I_59, A40, B_59) := hfT.tr (w40.2.2.2.fp.tr (fP.of (fun k _ _ h => hI k h) (fun _ _ _ _ _ => rfl) (fun k _ _ _ _ h _ => hB k h)))
                refine lv_aload_n hx hb dX8_belongs_101 rfl (lv_at hl 0 rfl) ?_
                refine lv_iload hx hb dX8_belongs_102 (lv_at hl 3 rfl) ?_
                refine lv_i2l hx hb dX8_belongs_104 rfl ?_
                refine lv_topl (fun x104 ex104 => ?_)
                have ex104 : x104 = lN (nb (fun i => z.testBit (czA fr to ne i)) (dmA fr to ne)) := by rw [ex104]; exact nm_il (by omega)
                subst ex104
                refine ct_calll hD hS hA (va_runV (As := [.long (lN (nb (fun i => z.testBit (czA fr to ne i)) (dmA fr to ne)))]) (rest := []) F ((k_X8_rest l dC dI cI cJ cZ cII cJJ R I_59 A40 B_59 14 rd rows (nb (fun i => z.testBit (czA fr to ne i)) (dmA fr to ne)) (by omega) hr (by omega) n14) _) (cwV 1 hts gX8_belongs_X8_rest rfl rfl rfl (by decide +kernel) ⟨(Nat.le_of_ble_eq_true rfl), (Nat.le_of_ble_eq_true rfl)⟩) (ct_preV 0 8 hK hN hP hD rfl rfl) rfl rfl hl.1 rfl (lv_room (Nat.le_of_ble_eq_true rfl)) dX8_belongs_105 ⟨(Nat.le_of_ble_eq_true rfl), (Nat.le_of_ble_eq_true rfl)⟩) (fun r105 u105 H locs w105 hP hD hS => ?_)
                obtain ⟨w105, rfl⟩ := w105
                refine lv_lconst (v := 0) hx hb dX8_belongs_108 (by decide) ?_
                refine W.lcmp hx hb dX8_belongs_109 ?_
                refine lv_if_eq (tgt := 117) hx hb dX8_belongs_110 (by decide) (fun c110 => ?_) (fun c110 => ?_)
                · -- 110 taken
                  rw [lg_cmp_eq] at c110
                  rw [w105] at c110
                  have c110 : spS (fun a => (1 ≤ a ∧ a < 2 ^ dmA fr to ne) ∧ wsum wt (elA fr to ne a) ne < wsum wt (elA fr to ne (nb (fun i => z.testBit (czA fr to ne i)) (dmA fr to ne))) ne) (nb (fun i => z.testBit (czA fr to ne i)) (dmA fr to ne)) := (hs.rest _).mp ((pk_lEQ (b := 0) (pwb (rsn_lt n14 rd (fun j hj => (hr.2 j hj).2)) (by omega)) (by decide)).mp c110)
                  refine lv_iconst (v := 0) hx hb dX8_belongs_117 (by decide) ?_
                  refine hret 118 ls _ _ 0 (I_59, A40, B_59) dX8_belongs_118 rfl ?_ hP hD hS
                  try dsimp only
                  exact ⟨fun _ => ⟨e0f, hff, Or.inr ⟨rfl, fun h => h.2.2 c110⟩⟩, fun h => absurd hv h⟩
                · -- 110 not
                  rw [lg_cmp_eq] at c110
                  have c110 : ¬ spS (fun a => (1 ≤ a ∧ a < 2 ^ dmA fr to ne) ∧ wsum wt (elA fr to ne a) ne < wsum wt (elA fr to ne (nb (fun i => z.testBit (czA fr to ne i)) (dmA fr to ne))) ne) (nb (fun i => z.testBit (czA fr to ne i)) (dmA fr to ne)) := fun h => c110 (by rw [w105, (hs.rest _).mpr h]; rfl)
                  refine lv_iconst (v := 1) hx hb dX8_belongs_113 (by decide) ?_
                  refine lv_goto (tgt := 118) hx hb dX8_belongs_114 (by decide) ?_
                  refine hret 118 ls _ _ 1 (I_59, A40, B_59) dX8_belongs_118 rfl ?_ hP hD hS
                  try dsimp only
                  exact ⟨fun _ => ⟨e0f, hff, Or.inl ⟨rfl, c26, c34, c110⟩⟩, fun h => absurd hv h⟩
              · -- 62 not
                rw [nI_leI (by omega) (by omega)] at c62
                have icl : (nI i).toNatClampNeg = i := nI_clamp (by omega)
                have iin : vp_in (nI i) 16384 := vp_in_nI (by omega) (by omega)
                have ncl : (nI (nb (fun i => z.testBit (czA fr to ne i)) (dmA fr to ne))).toNatClampNeg = nb (fun i => z.testBit (czA fr to ne i)) (dmA fr to ne) := nI_clamp (by omega)
                have i14 : i < 2 ^ 14 := by omega
                have hB14 : B_59 14 = B40 14 := hB 14 (by decide)
                refine lv_aload_n hx hb dX8_belongs_65 rfl (lv_at hl 0 rfl) ?_
                refine va_get (D := (dC, dI)) (ci := 8) (v := .ref (R 14)) (C := RX8) (T := TX8) (N := 20) hx hb hts hinX8 hown hK hP 0 rfl rfl 14 (by decide) hf42 (fun _ h9 => h9) rfl dX8_belongs_66 ?_
                refine lv_iload hx hb dX8_belongs_69 (lv_at hl 4 rfl) ?_
                have h71 : vp_in (nI i) 16384 := iin
                refine va_lald hx hb hK hP 10 1 rfl rfl h71 dX8_belongs_71 ?_
                refine lv_topl (fun x71 ex71 => ?_)
                have ex71 : x71 = B_59 14 (nI i).toNatClampNeg := ex71
                have ex71 : x71 = lN (wsum wt (elA fr to ne i) ne) := by rw [ex71, icl, hB14]; exact (hel i (by omega)).2
                refine lv_aload_n hx hb dX8_belongs_72 rfl (lv_at hl 0 rfl) ?_
                refine va_get (D := (dC, dI)) (ci := 8) (v := .ref (R 14)) (C := RX8) (T := TX8) (N := 20) hx hb hts hinX8 hown hK hP 0 rfl rfl 14 (by decide) hf42 (fun _ h9 => h9) rfl dX8_belongs_73 ?_
                refine lv_iload hx hb dX8_belongs_76 (lv_at hl 3 rfl) ?_
                have h78 : vp_in (nI (nb (fun i => z.testBit (czA fr to ne i)) (dmA fr to ne))) 16384 := vp_in_nI (by omega) (by omega)
                refine va_lald hx hb hK hP 10 1 rfl rfl h78 dX8_belongs_78 ?_
                refine lv_topl (fun x78 ex78 => ?_)
                have ex78 : x78 = B_59 14 (nI (nb (fun i => z.testBit (czA fr to ne i)) (dmA fr to ne))).toNatClampNeg := ex78
                have ex78 : x78 = lN (wsum wt (elA fr to ne (nb (fun i => z.testBit (czA fr to ne i)) (dmA fr to ne))) ne) := by rw [ex78, ncl, hB14]; exact (hel _ hnl).2
                refine W.lcmp hx hb dX8_belongs_79 ?_
                refine lv_if_lt (tgt := 86) hx hb dX8_belongs_80 (by decide) (fun c80 => ?_) (fun c80 => ?_)
                · -- 80 taken
                  rw [lg_cmp_lt] at c80
                  rw [ex71, ex78, pk_lLT (Nat.lt_trans (g.wl _) (by decide)) (Nat.lt_trans (g.wl _) (by decide))] at c80
                  refine lv_aload_n hx hb dX8_belongs_86 rfl (lv_at hl 0 rfl) ?_
                  refine lv_iload hx hb dX8_belongs_87 (lv_at hl 4 rfl) ?_
                  refine lv_i2l hx hb dX8_belongs_89 rfl ?_
                  refine lv_topl (fun x89 ex89 => ?_)
                  have ex89 : x89 = lN i := by rw [ex89]; exact nm_il (by omega)
                  subst ex89
                  refine ct_calli hD hS hA (va_runV (As := [.long (lN i)]) (rest := []) F ((k_X8_take l dC dI cI cJ cZ cII cJJ R I_59 A40 B_59 14 rd rows (fun a => (1 ≤ a ∧ a < i) ∧ wsum wt (elA fr to ne a) ne < wsum wt (elA fr to ne (nb (fun i => z.testBit (czA fr to ne i)) (dmA fr to ne))) ne) i (by omega) hr hs i14) _) (cwV 1 hts gX8_belongs_X8_take rfl rfl rfl (by decide +kernel) ⟨(Nat.le_of_ble_eq_true rfl), (Nat.le_of_ble_eq_true rfl)⟩) (ct_preV 0 8 hK hN hP hD rfl rfl) rfl rfl hl.1 rfl (lv_room (Nat.le_of_ble_eq_true rfl)) dX8_belongs_90 ⟨(Nat.le_of_ble_eq_true rfl), (Nat.le_of_ble_eq_true rfl)⟩) (fun r90 u90 H locs w90 hP hD hS => ?_)
                  obtain ⟨I90, A90, B90⟩ := u90
                  obtain ⟨rd2, rows2, t1, t2, t3, t4, t5, t6⟩ := w90
                  have t5 : A40 = A90 := t5.symm
                  subst t5
                  refine lv_istore (lv' := [(6, .int r90), (0, .ref (R 0)), (1, .long (lN z)), (3, .int (nI (2 ^ dmA fr to ne))), (4, .int (nI (nb (fun i => z.testBit (czA fr to ne i)) (dmA fr to ne)))), (5, .int (nI i))]) hx hb dX8_belongs_93 hl (by decide) rfl (fun ls hl => ?_)
                  obtain ⟨x95, ex95⟩ : ∃ zz : Int32, zz = nI i + (1) := ⟨_, rfl⟩
                  refine lv_iinc (v := x95) (lv' := [(5, .int x95), (6, .int r90), (0, .ref (R 0)), (1, .long (lN z)), (3, .int (nI (2 ^ dmA fr to ne))), (4, .int (nI (nb (fun i => z.testBit (czA fr to ne i)) (dmA fr to ne))))]) hx hb dX8_belongs_95 hl (k := 5) rfl (by rw [ex95]; rfl) (by decide) rfl (fun ls hl => ?_)
                  have ex95 : x95 = nI (i + 1) := by rw [ex95]; exact nI_1 i
                  subst ex95
                  refine lv_goto (tgt := 59) hx hb dX8_belongs_98 (by decide) ?_
                  exact ih59 (i + 1) I90 B90 ls _ _ (by omega) ⟨by omega, by omega, ⟨rd2, rows2, t1, t2.cong (fun a => ⟨fun h => h.elim (fun h => ⟨⟨h.1.1, by have := h.1.2; omega⟩, h.2⟩) (fun h => by rw [h]; exact ⟨⟨h1, by omega⟩, c80⟩), fun h => by by_cases e : a = i; exact Or.inr e; exact Or.inl ⟨⟨h.1.1, by have := h.1.2; omega⟩, h.2⟩⟩)⟩, fun k hk => (t4 k hk).trans (hI k hk), fun k hk => (t6 k hk).trans (hB k hk)⟩ hP hD hS (lv_sub hl [2, 3, 4, 5, 0] rfl)
                · -- 80 not
                  rw [lg_cmp_lt] at c80
                  rw [ex71, ex78, pk_lLT (Nat.lt_trans (g.wl _) (by decide)) (Nat.lt_trans (g.wl _) (by decide))] at c80
                  refine lv_goto (tgt := 95) hx hb dX8_belongs_83 (by decide) ?_
                  obtain ⟨x95, ex95⟩ : ∃ zz : Int32, zz = nI i + (1) := ⟨_, rfl⟩
                  refine lv_iinc (v := x95) (lv' := [(5, .int x95), (0, .ref (R 0)), (1, .long (lN z)), (3, .int (nI (2 ^ dmA fr to ne))), (4, .int (nI (nb (fun i => z.testBit (czA fr to ne i)) (dmA fr to ne))))]) hx hb dX8_belongs_95 hl (k := 4) rfl (by rw [ex95]; rfl) (by decide) rfl (fun ls hl => ?_)
                  have ex95 : x95 = nI (i + 1) := by rw [ex95]; exact nI_1 i
                  subst ex95
                  refine lv_goto (tgt := 59) hx hb dX8_belongs_98 (by decide) ?_
                  exact ih59 (i + 1) I_59 B_59 ls _ _ (by omega) ⟨by omega, by omega, ⟨rd, rows, hr, hs.cong (fun a => ⟨fun h => ⟨⟨h.1.1, by have := h.1.2; omega⟩, h.2⟩, fun h => ⟨⟨h.1.1, by have := h.1.2; have h3 : a ≠ i := (fun e => c80 (by have h4 := h.2; rw [e] at h4; exact h4)); omega⟩, h.2⟩⟩)⟩, hI, hB⟩ hP hD hS (lv_sub hl [1, 2, 3, 4, 0] rfl)
          exact K59 _ 1 I53 B40 ls _ _ (Nat.lt_succ_self _) ⟨Nat.le_refl 1, Nat.two_pow_pos _, ⟨0, fun _ => 0, ⟨by rw [eI53, up_self]; rfl, fun k h => absurd h (Nat.not_lt_zero _)⟩, rowsS_0 _ (fun a h => by have := h.1; omega)⟩, fun k hk => by rw [eI53, up_ne hk], fun _ _ => rfl⟩ hP hD hS (lv_sub hl [3, 4, 2, 1, 0] rfl)
        · -- 34 not
          have c34 : ¬ evn fr to nv ne z := fun h => by rw [w31, if_pos h] at c34; exact absurd c34 (by decide)
          refine lv_iconst (v := 0) hx hb dX8_belongs_37 (by decide) ?_
          refine hret 38 ls _ _ 0 (I15, A, B) dX8_belongs_38 rfl ?_ hP hD hS
          try dsimp only
          exact ⟨fun _ => ⟨e0, hfT, Or.inr ⟨rfl, fun h => c34 h.2.1⟩⟩, fun h => absurd hv h⟩
    · -- 18 not
      rw [w15, inv14] at c18
      have hv : ¬ z < 2 ^ ne := fun h => by rw [if_pos h] at c18; exact c18 rfl
      have eT : I15 = va_up I 0 1 := by rw [eI15, inv14, if_neg hv]; rfl
      refine lv_iconst (v := 0) hx hb dX8_belongs_21 (by decide) ?_
      refine hret 22 ls _ _ 0 (I15, A, B) dX8_belongs_22 rfl ?_ hP hD hS
      try dsimp only
      exact ⟨fun h => absurd h hv, fun _ => ⟨by rw [eT]; exact up_self, fP.rf0 eT⟩⟩
  refine ct_calli hD hS hA (va_runV (As := [.long (lN z)]) (rest := [.ref (R 0)]) F ((k_X8_isSet l dC dI cI cJ cZ cII cJJ R I A B (lN z)) _) (cwV 1 hts gX8_belongs_X8_isSet rfl rfl rfl (by decide +kernel) ⟨(Nat.le_of_ble_eq_true rfl), (Nat.le_of_ble_eq_true rfl)⟩) (ct_preV 0 8 hK hN hP hD rfl rfl) rfl rfl hl.1 rfl (lv_room (Nat.le_of_ble_eq_true rfl)) dX8_belongs_3 ⟨(Nat.le_of_ble_eq_true rfl), (Nat.le_of_ble_eq_true rfl)⟩) (fun r3 u3 H locs w3 hP hD hS => ?_)
  obtain ⟨w3, rfl⟩ := w3
  refine lv_if_ne (tgt := 13) hx hb dX8_belongs_6 (by decide) (fun c6 => ?_) (fun c6 => ?_)
  · -- 6 taken
    rw [w3, g.2.2.2.2.1] at c6
    have c6 : z < 2 ^ ne := (nm_set hz g.2.2.1).mp (Classical.byContradiction (fun h => by rw [if_neg h] at c6; exact c6 rfl))
    refine lv_iconst (v := 0) hx hb dX8_belongs_13 (by decide) ?_
    exact K14 0 ls _ _  (by rw [if_pos c6]) hP hD hS (lv_sub hl [0, 1] rfl)
  · -- 6 not
    rw [w3, g.2.2.2.2.1] at c6
    have c6 : ¬ z < 2 ^ ne := fun h => by rw [if_pos ((nm_set hz g.2.2.1).mpr h)] at c6; exact absurd c6 (by decide)
    refine lv_iconst (v := 1) hx hb dX8_belongs_9 (by decide) ?_
    refine lv_goto (tgt := 14) hx hb dX8_belongs_10 (by decide) ?_
    exact K14 1 ls _ _  (by rw [if_neg c6]) hP hD hS (lv_sub hl [0, 1] rfl)
set_option maxHeartbeats 4000000 in
set_option maxRecDepth 100000 in
theorem k_X8_basis (l : Launch) (dC : Nat → ClassId) (dI : Nat → Nat → Nat) (cI cJ cZ cII cJJ : ClassId) (R : Nat → Nat) (I : Nat → Int32) (A : Nat → Nat → Int32) (B : Nat → Nat → Int64) (nv ne : Nat) (fr to wt : Nat → Nat) (ib : Int32) (g : gM nv ne fr to wt I A) (hd : dmA fr to ne ≤ 14) : ctL l (dC, dI) (tyL cI cJ cZ cII cJJ) (MW cI cJ cZ R) yX8_basis wsX8_basis (4, 110) [.ref (R 0), .int ib] (I, A, B) (fun r u => (∀ i, i < dmA fr to ne → ib = nI i → u.1 0 = 0 ∧ fP I A B u ∧ ∃ pk, grd (fun c => wsum wt (elA fr to ne c) ne) (2 ^ dmA fr to ne) pk (i + 1) ∧ r = lN ((fun c => wsum wt (elA fr to ne c) ne) (pk i))) ∧ ((ib < 0 ∨ nI (dmA fr to ne) ≤ ib) → u.1 0 = 1 ∧ fP I A B u)) := by
  refine ctL_intro (cc := cX8_basis) (maxL := 9) (by decide) rfl (Nat.le_of_ble_eq_true rfl) ?_
  intro p e s m below meth c ls Aa Q F hK hN hP hD hS hA hl hret
  have hx := F.1
  have hb := F.2.1
  have hown : s.vm.findClass RX8 = some m.cls := F.2.2.2.1
  have hts := F.2.2.2.2
  have hinX8 : ∀ w ∈ wsX80, w ∈ wsX8_basis := by decide +kernel
  have hf130 := hts (.fieldLink RX8 130 "CycleHouseModel" "rowed" "I") (by decide +kernel)
  have hf42 := hts (.fieldLink RX8 42 "CycleHouseModel" "weights" "[J") (by decide +kernel)
  have hl : lv_has ls 9 [(0, .ref (R 0)), (1, .int ib)] := hl
  refine lv_aload_n hx hb dX8_basis_0 rfl (lv_at hl 0 rfl) ?_
  refine ct_calli hD hS hA (va_runV (As := []) (rest := []) F ((k_X8_dimension l dC dI cI cJ cZ cII cJJ R I A B nv ne fr to wt g) _) (cwV 0 hts gX8_basis_X8_dimension rfl rfl rfl (by decide +kernel) ⟨(Nat.le_of_ble_eq_true rfl), (Nat.le_of_ble_eq_true rfl)⟩) (ct_preV 0 8 hK hN hP hD rfl rfl) rfl rfl hl.1 rfl (lv_room (Nat.le_of_ble_eq_true rfl)) dX8_basis_1 ⟨(Nat.le_of_ble_eq_true rfl), (Nat.le_of_ble_eq_true rfl)⟩) (fun r1 u1 H locs w1 hP hD hS => ?_)
  obtain ⟨I1, A1, B1⟩ := u1
  have er1 : r1 = nI (dmA fr to ne) := w1.1
  subst er1
  have g3 := g.2.2.1
  have g2 := g.2.1
  have gg := g.fj w1.2.2
  refine lv_istore_n (lv' := [(2, .int (nI (dmA fr to ne))), (0, .ref (R 0)), (1, .int ib)]) hx hb dX8_basis_4 rfl hl (by decide) rfl (fun ls hl => ?_)
  have K20 : ∀ (o : Int32) (ls : Array Slot) (H : Heap) (locs : List Loc), ((o = 1 ∧ (ib < 0 ∨ nI (dmA fr to ne) ≤ ib)) ∨ (o = 0 ∧ ∃ i, i < dmA fr to ne ∧ ib = nI i)) → va_P (dC, dI) vwCl (MW cI cJ cZ R (I1, A1, B1)) H → va_D Aa (MW cI cJ cZ R (I1, A1, B1)) → va_S Aa s.heap H locs → lv_has ls 9 [(0, .ref (R 0)), (1, .int ib), (2, .int (nI (dmA fr to ne)))] → W p l e (ctR (4, 110)) s m #[.ref (R 0), .int ib] below meth c H locs 0 0 Q (F0 m 20 ls [.int o, .ref (R 0)]) := by
    intro o ls H locs inv20 hP hD hS hl
    refine lv_iconst (v := 0) hx hb dX8_basis_20 (by decide) ?_
    refine ct_calli hD hS hA (va_runV (As := [.int o, .int 0]) (rest := []) F ((k_X8_throwing l dC dI cI cJ cZ cII cJJ R I1 A1 B1 o 0) _) (cwV 2 hts gX8_basis_X8_throwing rfl rfl rfl (by decide +kernel) ⟨(Nat.le_of_ble_eq_true rfl), (Nat.le_of_ble_eq_true rfl)⟩) (ct_preV 0 8 hK hN hP hD rfl rfl) rfl rfl hl.1 rfl (lv_room (Nat.le_of_ble_eq_true rfl)) dX8_basis_21 ⟨(Nat.le_of_ble_eq_true rfl), (Nat.le_of_ble_eq_true rfl)⟩) (fun r21 u21 H locs w21 hP hD hS => ?_)
    obtain ⟨w21, hu21⟩ := w21
    obtain ⟨I21, A21, B21⟩ := u21
    have eI21 := congrArg (fun z => z.1) hu21
    dsimp only at eI21
    have eA21 : A1 = A21 := (congrArg (fun z => z.2.1) hu21).symm
    subst eA21
    have eB21 : B1 = B21 := (congrArg (fun z => z.2.2) hu21).symm
    subst eB21
    clear hu21
    refine lv_if_eq (tgt := 29) hx hb dX8_basis_24 (by decide) (fun c24 => ?_) (fun c24 => ?_)
    · -- 24 taken
      have hv : ∃ i, i < dmA fr to ne ∧ ib = nI i := inv20.elim (fun h => by rw [w21, h.1] at c24; exact absurd c24 (by decide)) (fun h => h.2)
      have eo : o = 0 := inv20.elim (fun h => by rw [w21, h.1] at c24; exact absurd c24 (by decide)) (fun h => h.1)
      obtain ⟨i, hi, eib⟩ := hv
      have eT : I21 = va_up I1 0 0 := by rw [eI21, eo]; rfl
      have hfT : fP I A B (I21, A1, B1) := w1.2.2.fp.tr (fP.rf0 eT)
      have gT := g.fp hfT
      have e0 : I21 0 = 0 := by rw [eT]; exact up_self
      refine lv_aload_n hx hb dX8_basis_29 rfl (lv_at hl 0 rfl) ?_
      refine ct_calli hD hS hA (va_runV (As := []) (rest := []) F ((k_X8_spread l dC dI cI cJ cZ cII cJJ R I21 A1 B1 nv ne fr to wt gT hd) _) (cwV 0 hts gX8_basis_X8_spread rfl rfl rfl (by decide +kernel) ⟨(Nat.le_of_ble_eq_true rfl), (Nat.le_of_ble_eq_true rfl)⟩) (ct_preV 0 8 hK hN hP hD rfl rfl) rfl rfl hl.1 rfl (lv_room (Nat.le_of_ble_eq_true rfl)) dX8_basis_30 ⟨(Nat.le_of_ble_eq_true rfl), (Nat.le_of_ble_eq_true rfl)⟩) (fun r30 u30 H locs w30 hP hD hS => ?_)
      obtain ⟨I30, A30, B30⟩ := u30
      have er30 : r30 = nI (2 ^ dmA fr to ne) := w30.1
      subst er30
      have hpw := pw14 hd
      have hel := w30.2.1
      refine lv_istore_n (lv' := [(3, .int (nI (2 ^ dmA fr to ne))), (0, .ref (R 0)), (1, .int ib), (2, .int (nI (dmA fr to ne)))]) hx hb dX8_basis_33 rfl hl (by decide) rfl (fun ls hl => ?_)
      refine lv_aload_n hx hb dX8_basis_34 rfl (lv_at hl 1 rfl) ?_
      refine lv_iconst (v := 0) hx hb dX8_basis_35 (by decide) ?_
      refine va_put (D := (dC, dI)) (ci := 8) (v := .int 0) (ty := .int) (C := RX8) (T := TX8) (N := 20) hx hb hts hinX8 tyX8 tyX8_ok nmX8 hown hK hP hD hS 0 rfl rfl 16 (by decide) hf130 (fun _ h9 => h9) rfl (by decide +kernel) rfl rfl (Nat.le_of_ble_eq_true rfl) dX8_basis_36 (fun H locs hP hD hS => ?_)
      obtain ⟨I36, eI36⟩ : ∃ zz : Nat → Int32, zz = va_up I30 16 0 := ⟨_, rfl⟩
      have hP : va_P (dC, dI) vwCl (MW cI cJ cZ R (I36, A30, B30)) H := by rw [eI36]; exact hP
      have hD : va_D Aa (MW cI cJ cZ R (I36, A30, B30)) := by rw [eI36]; exact hD
      refine lv_lconst (v := 0) hx hb dX8_basis_39 (by decide) ?_
      refine lv_lstore (lv' := [(4, .long 0), (3, .int (nI (2 ^ dmA fr to ne))), (0, .ref (R 0)), (1, .int ib), (2, .int (nI (dmA fr to ne)))]) hx hb dX8_basis_40 hl (by decide) rfl (fun ls hl => ?_)
      refine lv_iconst (v := 0) hx hb dX8_basis_42 (by decide) ?_
      refine lv_istore (lv' := [(6, .int 0), (4, .long 0), (3, .int (nI (2 ^ dmA fr to ne))), (0, .ref (R 0)), (1, .int ib), (2, .int (nI (dmA fr to ne)))]) hx hb dX8_basis_43 hl (by decide) rfl (fun ls hl => ?_)
      have K45 : ∀ (kn : Nat) (k : Nat) (y4 : Int64) (I_45 : Nat → Int32) (B_45 : Nat → Nat → Int64) (ls : Array Slot) (H : Heap) (locs : List Loc), i + 1 - k < kn → (k ≤ i + 1 ∧ (∃ pk, grd (fun c => wsum wt (elA fr to ne c) ne) (2 ^ dmA fr to ne) pk k ∧ (0 < k → y4 = lN ((fun c => wsum wt (elA fr to ne c) ne) (pk (k - 1)))) ∧ ∃ rows, rR 14 k rows I_45 B_45 ∧ rowsS k rows (fun a => ∃ j, j < k ∧ a = pk j)) ∧ (∀ k, k ≠ 16 → I_45 k = I30 k) ∧ ∀ k, k ≠ 15 → B_45 k = B30 k) → va_P (dC, dI) vwCl (MW cI cJ cZ R (I_45, A30, B_45)) H → va_D Aa (MW cI cJ cZ R (I_45, A30, B_45)) → va_S Aa s.heap H locs → lv_has ls 9 [(0, .ref (R 0)), (1, .int ib), (3, .int (nI (2 ^ dmA fr to ne))), (4, .long y4), (6, .int (nI k))] → W p l e (ctR (4, 110)) s m #[.ref (R 0), .int ib] below meth c H locs 0 0 Q (F0 m 45 ls []) := by
        intro kn
        induction kn with
        | zero => intro k y4 I_45 B_45 ls H locs hmu; exact absurd hmu (Nat.not_lt_zero _)
        | succ kn ih45 =>
          intro k y4 I_45 B_45 ls H locs mu45 inv45 hP hD hS hl
          obtain ⟨hk1, ⟨pk, hg, ey, rows, hr, hs⟩, hI, hB⟩ := inv45
          have hB14 : B_45 14 = B30 14 := hB 14 (by decide)
          refine lv_iload hx hb dX8_basis_45 (lv_at hl 4 rfl) ?_
          refine lv_iload_n hx hb dX8_basis_47 rfl (lv_at hl 1 rfl) ?_
          refine lv_icmp_gt (tgt := 131) hx hb dX8_basis_48 (by decide) (fun c48 => ?_) (fun c48 => ?_)
          · -- 48 taken
            have hge : k = i + 1 := by rw [eib, nI_ltI (by omega) (by omega)] at c48; omega
            refine lv_lload hx hb dX8_basis_131 (lv_at hl 3 rfl) ?_
            refine hret 133 ls _ _ y4 (I_45, A30, B_45) dX8_basis_133 ?_ hP hD hS
            try dsimp only
            exact ⟨fun i2 hi2 he => by have e3 : i = i2 := (nI_eq (by omega) (by omega)).mp (by rw [← eib]; exact he); subst e3; rw [hge] at hg ey; exact ⟨(hI 0 (by decide)).trans ((w30.2.2.2.1 0 (by decide)).trans e0), hfT.tr (w30.2.2.2.fp.tr (fP.of (fun k _ _ h => hI k h) (fun _ _ _ _ _ => rfl) (fun k _ _ _ _ h _ => hB k h))), pk, hg, by have := ey (by omega); rw [show i + 1 - 1 = i by omega] at this; exact this⟩, fun h => by rw [eib] at h; exact h.elim (fun h => absurd h (nI_pos (by omega))) (fun h => absurd ((nI_leI (by omega) (by omega)).mp h) (by omega))⟩
          · -- 48 not
            rw [eib, nI_ltI (by omega) (by omega)] at c48
            refine lv_iconst (v := (-1)) hx hb dX8_basis_51 (by decide) ?_
            refine lv_istore (lv' := [(7, .int ((-1))), (0, .ref (R 0)), (1, .int ib), (3, .int (nI (2 ^ dmA fr to ne))), (4, .long y4), (6, .int (nI k))]) hx hb dX8_basis_52 hl (by decide) rfl (fun ls hl => ?_)
            refine lv_iconst (v := 1) hx hb dX8_basis_54 (by decide) ?_
            refine lv_istore (lv' := [(8, .int 1), (7, .int ((-1))), (0, .ref (R 0)), (1, .int ib), (3, .int (nI (2 ^ dmA fr to ne))), (4, .long y4), (6, .int (nI k))]) hx hb dX8_basis_55 hl (by decide) rfl (fun ls hl => ?_)
            have K57 : ∀ (kn : Nat) (x : Nat) (bb : Int32) (ls : Array Slot) (H : Heap) (locs : List Loc), 2 ^ (dmA fr to ne) - x < kn → (1 ≤ x ∧ x ≤ 2 ^ dmA fr to ne ∧ bst (fun c => wsum wt (elA fr to ne c) ne) (fun a => ∃ j, j < k ∧ a = pk j) (x) bb) → va_P (dC, dI) vwCl (MW cI cJ cZ R (I_45, A30, B_45)) H → va_D Aa (MW cI cJ cZ R (I_45, A30, B_45)) → va_S Aa s.heap H locs → lv_has ls 9 [(0, .ref (R 0)), (1, .int ib), (3, .int (nI (2 ^ dmA fr to ne))), (4, .long y4), (6, .int (nI k)), (7, .int bb), (8, .int (nI x))] → W p l e (ctR (4, 110)) s m #[.ref (R 0), .int ib] below meth c H locs 0 0 Q (F0 m 57 ls []) := by
              intro kn
              induction kn with
              | zero => intro x bb ls H locs hmu; exact absurd hmu (Nat.not_lt_zero _)
              | succ kn ih57 =>
                intro x bb ls H locs mu57 inv57 hP hD hS hl
                obtain ⟨h1, hx2, hbst⟩ := inv57
                refine lv_iload hx hb dX8_basis_57 (lv_at hl 6 rfl) ?_
                refine lv_iload_n hx hb dX8_basis_59 rfl (lv_at hl 2 rfl) ?_
                refine lv_icmp_ge (tgt := 108) hx hb dX8_basis_60 (by decide) (fun c60 => ?_) (fun c60 => ?_)
                · -- 60 taken
                  rw [nI_leI (by omega) (by omega)] at c60
                  have hge : x = 2 ^ dmA fr to ne := by omega
                  rw [hge] at hbst
                  obtain ⟨b0, hb0, eb, hb1, hb2⟩ : ∃ b0, b0 < 2 ^ dmA fr to ne ∧ bb = nI b0 ∧ ¬ spS (fun a => ∃ j, j < k ∧ a = pk j) b0 ∧ ∀ y, y < 2 ^ dmA fr to ne → ¬ spS (fun a => ∃ j, j < k ∧ a = pk j) y → (fun c => wsum wt (elA fr to ne c) ne) b0 ≤ (fun c => wsum wt (elA fr to ne c) ne) y := bst_end hbst (fun h => by obtain ⟨y, hy, hy2⟩ := no_span (k := k) (d := dmA fr to ne) pk (by omega); exact hy2 (h y hy))
                  have b14 : b0 < 2 ^ 14 := by omega
                  refine lv_aload_n hx hb dX8_basis_108 rfl (lv_at hl 0 rfl) ?_
                  refine va_get (D := (dC, dI)) (ci := 8) (v := .ref (R 14)) (C := RX8) (T := TX8) (N := 20) hx hb hts hinX8 hown hK hP 0 rfl rfl 14 (by decide) hf42 (fun _ h9 => h9) rfl dX8_basis_109 ?_
                  refine lv_iload hx hb dX8_basis_112 (lv_at hl 5 rfl) ?_
                  have h114 : vp_in bb 16384 := by rw [eb]; exact vp_in_nI (by omega) (by omega)
                  refine va_lald hx hb hK hP 10 1 rfl rfl h114 dX8_basis_114 ?_
                  refine lv_topl (fun x114 ex114 => ?_)
                  have ex114 : x114 = B_45 14 bb.toNatClampNeg := ex114
                  refine lv_lstore (lv' := [(4, .long x114), (0, .ref (R 0)), (1, .int ib), (3, .int (nI (2 ^ dmA fr to ne))), (6, .int (nI k)), (7, .int bb), (8, .int (nI x))]) hx hb dX8_basis_115 hl (by decide) rfl (fun ls hl => ?_)
                  refine lv_aload_n hx hb dX8_basis_117 rfl (lv_at hl 1 rfl) ?_
                  refine lv_iload hx hb dX8_basis_118 (lv_at hl 5 rfl) ?_
                  refine lv_i2l hx hb dX8_basis_120 rfl ?_
                  refine lv_topl (fun x120 ex120 => ?_)
                  have ex120 : x120 = lN b0 := by rw [ex120, eb]; exact nm_il (by omega)
                  subst ex120
                  refine ct_calli hD hS hA (va_runV (As := [.long (lN b0)]) (rest := []) F ((k_X8_take l dC dI cI cJ cZ cII cJJ R I_45 A30 B_45 14 k rows (fun a => ∃ j, j < k ∧ a = pk j) b0 (by omega) hr hs b14) _) (cwV 1 hts gX8_basis_X8_take rfl rfl rfl (by decide +kernel) ⟨(Nat.le_of_ble_eq_true rfl), (Nat.le_of_ble_eq_true rfl)⟩) (ct_preV 0 8 hK hN hP hD rfl rfl) rfl rfl hl.1 rfl (lv_room (Nat.le_of_ble_eq_true rfl)) dX8_basis_121 ⟨(Nat.le_of_ble_eq_true rfl), (Nat.le_of_ble_eq_true rfl)⟩) (fun r121 u121 H locs w121 hP hD hS => ?_)
                  obtain ⟨I121, A121, B121⟩ := u121
                  obtain ⟨rd2, rows2, t1, t2, t3, t4, t5, t6⟩ := w121
                  have t5 : A30 = A121 := t5.symm
                  subst t5
                  have erd : rd2 = k + 1 := t3.elim (fun h => absurd h.1 hb1) (fun h => h.2.2)
                  subst erd
                  refine lv_pop hx hb dX8_basis_124 rfl ?_
                  obtain ⟨x125, ex125⟩ : ∃ zz : Int32, zz = nI k + (1) := ⟨_, rfl⟩
                  refine lv_iinc (v := x125) (lv' := [(6, .int x125), (4, .long x114), (0, .ref (R 0)), (1, .int ib), (3, .int (nI (2 ^ dmA fr to ne))), (7, .int bb), (8, .int (nI x))]) hx hb dX8_basis_125 hl (k := 4) rfl (by rw [ex125]; rfl) (by decide) rfl (fun ls hl => ?_)
                  have ex125 : x125 = nI (k + 1) := by rw [ex125]; exact nI_1 k
                  subst ex125
                  refine lv_goto (tgt := 45) hx hb dX8_basis_128 (by decide) ?_
                  exact ih45 (k + 1) x114 I121 B121 ls _ _ (by omega) ⟨by omega, ⟨va_up pk k b0, grd_add hg hb0 hb1 hb2, fun _ => by rw [show k + 1 - 1 = k by omega, up_self, ex114, eb, nI_clamp (show b0 < 2 ^ 31 by omega), hB14]; exact (hel b0 hb0).2, rows2, t1, t2.cong (fun a => up_P)⟩, fun k hk => (t4 k hk).trans (hI k hk), fun k hk => (t6 k hk).trans (hB k hk)⟩ hP hD hS (lv_sub hl [2, 3, 4, 1, 0] rfl)
                · -- 60 not
                  rw [nI_leI (by omega) (by omega)] at c60
                  have xcl : (nI x).toNatClampNeg = x := nI_clamp (by omega)
                  have xin : vp_in (nI x) 16384 := vp_in_nI (by omega) (by omega)
                  have x14 : x < 2 ^ 14 := by omega
                  refine lv_iload hx hb dX8_basis_63 (lv_at hl 5 rfl) ?_
                  refine lv_if_lt (tgt := 86) hx hb dX8_basis_65 (by decide) (fun c65 => ?_) (fun c65 => ?_)
                  · -- 65 taken
                    have hlow : ∀ b0, b0 < x → bb = nI b0 → (fun c => wsum wt (elA fr to ne c) ne) x ≤ (fun c => wsum wt (elA fr to ne c) ne) b0 := fun b0 h e => absurd c65 (by rw [e]; exact nI_pos (by omega))
                    refine lv_aload_n hx hb dX8_basis_86 rfl (lv_at hl 0 rfl) ?_
                    refine lv_iload hx hb dX8_basis_87 (lv_at hl 6 rfl) ?_
                    refine lv_i2l hx hb dX8_basis_89 rfl ?_
                    refine lv_topl (fun x89 ex89 => ?_)
                    have ex89 : x89 = lN x := by rw [ex89]; exact nm_il (by omega)
                    subst ex89
                    refine ct_calll hD hS hA (va_runV (As := [.long (lN x)]) (rest := []) F ((k_X8_rest l dC dI cI cJ cZ cII cJJ R I_45 A30 B_45 14 k rows x (by omega) hr (by omega) x14) _) (cwV 1 hts gX8_basis_X8_rest rfl rfl rfl (by decide +kernel) ⟨(Nat.le_of_ble_eq_true rfl), (Nat.le_of_ble_eq_true rfl)⟩) (ct_preV 0 8 hK hN hP hD rfl rfl) rfl rfl hl.1 rfl (lv_room (Nat.le_of_ble_eq_true rfl)) dX8_basis_90 ⟨(Nat.le_of_ble_eq_true rfl), (Nat.le_of_ble_eq_true rfl)⟩) (fun r90 u90 H locs w90 hP hD hS => ?_)
                    obtain ⟨w90, rfl⟩ := w90
                    refine lv_lconst (v := 0) hx hb dX8_basis_93 (by decide) ?_
                    refine W.lcmp hx hb dX8_basis_94 ?_
                    refine lv_if_eq (tgt := 102) hx hb dX8_basis_95 (by decide) (fun c95 => ?_) (fun c95 => ?_)
                    · -- 95 taken
                      rw [lg_cmp_eq] at c95
                      rw [w90] at c95
                      have c95 : spS (fun a => ∃ j, j < k ∧ a = pk j) x := (hs.rest _).mp ((pk_lEQ (b := 0) (pwb (rsn_lt x14 k (fun j hj => (hr.2 j hj).2)) (by omega)) (by decide)).mp c95)
                      obtain ⟨x102, ex102⟩ : ∃ zz : Int32, zz = nI x + (1) := ⟨_, rfl⟩
                      refine lv_iinc (v := x102) (lv' := [(8, .int x102), (0, .ref (R 0)), (1, .int ib), (3, .int (nI (2 ^ dmA fr to ne))), (4, .long y4), (6, .int (nI k)), (7, .int bb)]) hx hb dX8_basis_102 hl (k := 6) rfl (by rw [ex102]; rfl) (by decide) rfl (fun ls hl => ?_)
                      have ex102 : x102 = nI (x + 1) := by rw [ex102]; exact nI_1 x
                      subst ex102
                      refine lv_goto (tgt := 57) hx hb dX8_basis_105 (by decide) ?_
                      exact ih57 (x + 1) bb ls _ _ (by omega) ⟨by omega, by omega, bst_skip hbst c95⟩ hP hD hS (lv_sub hl [1, 2, 3, 4, 5, 6, 0] rfl)
                    · -- 95 not
                      rw [lg_cmp_eq] at c95
                      have c95 : ¬ spS (fun a => ∃ j, j < k ∧ a = pk j) x := fun h => c95 (by rw [w90, (hs.rest _).mpr h]; rfl)
                      refine lv_iload hx hb dX8_basis_98 (lv_at hl 6 rfl) ?_
                      refine lv_istore (lv' := [(7, .int (nI x)), (0, .ref (R 0)), (1, .int ib), (3, .int (nI (2 ^ dmA fr to ne))), (4, .long y4), (6, .int (nI k)), (8, .int (nI x))]) hx hb dX8_basis_100 hl (by decide) rfl (fun ls hl => ?_)
                      obtain ⟨x102, ex102⟩ : ∃ zz : Int32, zz = nI x + (1) := ⟨_, rfl⟩
                      refine lv_iinc (v := x102) (lv' := [(8, .int x102), (7, .int (nI x)), (0, .ref (R 0)), (1, .int ib), (3, .int (nI (2 ^ dmA fr to ne))), (4, .long y4), (6, .int (nI k))]) hx hb dX8_basis_102 hl (k := 6) rfl (by rw [ex102]; rfl) (by decide) rfl (fun ls hl => ?_)
                      have ex102 : x102 = nI (x + 1) := by rw [ex102]; exact nI_1 x
                      subst ex102
                      refine lv_goto (tgt := 57) hx hb dX8_basis_105 (by decide) ?_
                      exact ih57 (x + 1) (nI x) ls _ _ (by omega) ⟨by omega, by omega, bst_new hbst c95 hlow⟩ hP hD hS (lv_sub hl [2, 3, 4, 5, 6, 1, 0] rfl)
                  · -- 65 not
                    obtain ⟨b0, hb0, eb, hb1, hb2⟩ : ∃ b0, b0 < x ∧ bb = nI b0 ∧ ¬ spS (fun a => ∃ j, j < k ∧ a = pk j) b0 ∧ ∀ y, y < x → ¬ spS (fun a => ∃ j, j < k ∧ a = pk j) y → (fun c => wsum wt (elA fr to ne c) ne) b0 ≤ (fun c => wsum wt (elA fr to ne c) ne) y := bst_elim hbst c65
                    have bcl : bb.toNatClampNeg = b0 := by rw [eb]; exact nI_clamp (by omega)
                    refine lv_aload_n hx hb dX8_basis_68 rfl (lv_at hl 0 rfl) ?_
                    refine va_get (D := (dC, dI)) (ci := 8) (v := .ref (R 14)) (C := RX8) (T := TX8) (N := 20) hx hb hts hinX8 hown hK hP 0 rfl rfl 14 (by decide) hf42 (fun _ h9 => h9) rfl dX8_basis_69 ?_
                    refine lv_iload hx hb dX8_basis_72 (lv_at hl 6 rfl) ?_
                    have h74 : vp_in (nI x) 16384 := xin
                    refine va_lald hx hb hK hP 10 1 rfl rfl h74 dX8_basis_74 ?_
                    refine lv_topl (fun x74 ex74 => ?_)
                    have ex74 : x74 = B_45 14 (nI x).toNatClampNeg := ex74
                    have ex74 : x74 = lN ((fun c => wsum wt (elA fr to ne c) ne) x) := by rw [ex74, xcl, hB14]; exact (hel x (by omega)).2
                    refine lv_aload_n hx hb dX8_basis_75 rfl (lv_at hl 0 rfl) ?_
                    refine va_get (D := (dC, dI)) (ci := 8) (v := .ref (R 14)) (C := RX8) (T := TX8) (N := 20) hx hb hts hinX8 hown hK hP 0 rfl rfl 14 (by decide) hf42 (fun _ h9 => h9) rfl dX8_basis_76 ?_
                    refine lv_iload hx hb dX8_basis_79 (lv_at hl 5 rfl) ?_
                    have h81 : vp_in bb 16384 := by rw [eb]; exact vp_in_nI (by omega) (by omega)
                    refine va_lald hx hb hK hP 10 1 rfl rfl h81 dX8_basis_81 ?_
                    refine lv_topl (fun x81 ex81 => ?_)
                    have ex81 : x81 = B_45 14 bb.toNatClampNeg := ex81
                    have ex81 : x81 = lN ((fun c => wsum wt (elA fr to ne c) ne) b0) := by rw [ex81, bcl, hB14]; exact (hel b0 (by omega)).2
                    refine W.lcmp hx hb dX8_basis_82 ?_
                    refine lv_if_ge (tgt := 102) hx hb dX8_basis_83 (by decide) (fun c83 => ?_) (fun c83 => ?_)
                    · -- 83 taken
                      rw [lg_cmp_ge] at c83
                      rw [ex74, ex81, pk_lLE (Nat.lt_trans (g.wl _) (by decide)) (Nat.lt_trans (g.wl _) (by decide))] at c83
                      obtain ⟨x102, ex102⟩ : ∃ zz : Int32, zz = nI x + (1) := ⟨_, rfl⟩
                      refine lv_iinc (v := x102) (lv' := [(8, .int x102), (0, .ref (R 0)), (1, .int ib), (3, .int (nI (2 ^ dmA fr to ne))), (4, .long y4), (6, .int (nI k)), (7, .int bb)]) hx hb dX8_basis_102 hl (k := 6) rfl (by rw [ex102]; rfl) (by decide) rfl (fun ls hl => ?_)
                      have ex102 : x102 = nI (x + 1) := by rw [ex102]; exact nI_1 x
                      subst ex102
                      refine lv_goto (tgt := 57) hx hb dX8_basis_105 (by decide) ?_
                      exact ih57 (x + 1) bb ls _ _ (by omega) ⟨by omega, by omega, bst_keep hb0 eb hb1 hb2 c83⟩ hP hD hS (lv_sub hl [1, 2, 3, 4, 5, 6, 0] rfl)
                    · -- 83 not
                      rw [lg_cmp_ge] at c83
                      rw [ex74, ex81, pk_lLE (Nat.lt_trans (g.wl _) (by decide)) (Nat.lt_trans (g.wl _) (by decide))] at c83
                      have hlow : ∀ b1, b1 < x → bb = nI b1 → (fun c => wsum wt (elA fr to ne c) ne) x ≤ (fun c => wsum wt (elA fr to ne c) ne) b1 := fun b1 h e => by have e2 : b0 = b1 := (nI_eq (by omega) (by omega)).mp (by rw [← eb]; exact e); rw [← e2]; exact Nat.le_of_lt (Nat.lt_of_not_le c83)
                      refine lv_aload_n hx hb dX8_basis_86 rfl (lv_at hl 0 rfl) ?_
                      refine lv_iload hx hb dX8_basis_87 (lv_at hl 6 rfl) ?_
                      refine lv_i2l hx hb dX8_basis_89 rfl ?_
                      refine lv_topl (fun x89 ex89 => ?_)
                      have ex89 : x89 = lN x := by rw [ex89]; exact nm_il (by omega)
                      subst ex89
                      refine ct_calll hD hS hA (va_runV (As := [.long (lN x)]) (rest := []) F ((k_X8_rest l dC dI cI cJ cZ cII cJJ R I_45 A30 B_45 14 k rows x (by omega) hr (by omega) x14) _) (cwV 1 hts gX8_basis_X8_rest rfl rfl rfl (by decide +kernel) ⟨(Nat.le_of_ble_eq_true rfl), (Nat.le_of_ble_eq_true rfl)⟩) (ct_preV 0 8 hK hN hP hD rfl rfl) rfl rfl hl.1 rfl (lv_room (Nat.le_of_ble_eq_true rfl)) dX8_basis_90 ⟨(Nat.le_of_ble_eq_true rfl), (Nat.le_of_ble_eq_true rfl)⟩) (fun r90 u90 H locs w90 hP hD hS => ?_)
                      obtain ⟨w90, rfl⟩ := w90
                      refine lv_lconst (v := 0) hx hb dX8_basis_93 (by decide) ?_
                      refine W.lcmp hx hb dX8_basis_94 ?_
                      refine lv_if_eq (tgt := 102) hx hb dX8_basis_95 (by decide) (fun c95 => ?_) (fun c95 => ?_)
                      · -- 95 taken
                        rw [lg_cmp_eq] at c95
                        rw [w90] at c95
                        have c95 : spS (fun a => ∃ j, j < k ∧ a = pk j) x := (hs.rest _).mp ((pk_lEQ (b := 0) (pwb (rsn_lt x14 k (fun j hj => (hr.2 j hj).2)) (by omega)) (by decide)).mp c95)
                        obtain ⟨x102, ex102⟩ : ∃ zz : Int32, zz = nI x + (1) := ⟨_, rfl⟩
                        refine lv_iinc (v := x102) (lv' := [(8, .int x102), (0, .ref (R 0)), (1, .int ib), (3, .int (nI (2 ^ dmA fr to ne))), (4, .long y4), (6, .int (nI k)), (7, .int bb)]) hx hb dX8_basis_102 hl (k := 6) rfl (by rw [ex102]; rfl) (by decide) rfl (fun ls hl => ?_)
                        have ex102 : x102 = nI (x + 1) := by rw [ex102]; exact nI_1 x
                        subst ex102
                        refine lv_goto (tgt := 57) hx hb dX8_basis_105 (by decide) ?_
                        exact ih57 (x + 1) bb ls _ _ (by omega) ⟨by omega, by omega, bst_skip hbst c95⟩ hP hD hS (lv_sub hl [1, 2, 3, 4, 5, 6, 0] rfl)
                      · -- 95 not
                        rw [lg_cmp_eq] at c95
                        have c95 : ¬ spS (fun a => ∃ j, j < k ∧ a = pk j) x := fun h => c95 (by rw [w90, (hs.rest _).mpr h]; rfl)
                        refine lv_iload hx hb dX8_basis_98 (lv_at hl 6 rfl) ?_
                        refine lv_istore (lv' := [(7, .int (nI x)), (0, .ref (R 0)), (1, .int ib), (3, .int (nI (2 ^ dmA fr to ne))), (4, .long y4), (6, .int (nI k)), (8, .int (nI x))]) hx hb dX8_basis_100 hl (by decide) rfl (fun ls hl => ?_)
                        obtain ⟨x102, ex102⟩ : ∃ zz : Int32, zz = nI x + (1) := ⟨_, rfl⟩
                        refine lv_iinc (v := x102) (lv' := [(8, .int x102), (7, .int (nI x)), (0, .ref (R 0)), (1, .int ib), (3, .int (nI (2 ^ dmA fr to ne))), (4, .long y4), (6, .int (nI k))]) hx hb dX8_basis_102 hl (k := 6) rfl (by rw [ex102]; rfl) (by decide) rfl (fun ls hl => ?_)
                        have ex102 : x102 = nI (x + 1) := by rw [ex102]; exact nI_1 x
                        subst ex102
                        refine lv_goto (tgt := 57) hx hb dX8_basis_105 (by decide) ?_
                        exact ih57 (x + 1) (nI x) ls _ _ (by omega) ⟨by omega, by omega, bst_new hbst c95 hlow⟩ hP hD hS (lv_sub hl [2, 3, 4, 5, 6, 1, 0] rfl)
            exact K57 _ 1 ((-1)) ls _ _ (Nat.lt_succ_self _) ⟨Nat.le_refl 1, Nat.two_pow_pos _, Or.inl ⟨rfl, fun y hy => (show y = 0 by omega) ▸ spS_0 _⟩⟩ hP hD hS (lv_sub hl [2, 3, 4, 5, 6, 1, 0] rfl)
      exact K45 _ 0 0 I36 B30 ls _ _ (Nat.lt_succ_self _) ⟨Nat.zero_le _, ⟨fun _ => 0, fun j h => absurd h (Nat.not_lt_zero _), fun h => absurd h (Nat.lt_irrefl _), fun _ => 0, ⟨by rw [eI36, up_self]; rfl, fun k h => absurd h (Nat.not_lt_zero _)⟩, rowsS_0 _ (fun a ⟨i, h, _⟩ => absurd h (Nat.not_lt_zero _))⟩, fun k hk => by rw [eI36, up_ne hk], fun _ _ => rfl⟩ hP hD hS (lv_sub hl [3, 4, 2, 1, 0] rfl)
    · -- 24 not
      have hv : o = 1 ∧ (ib < 0 ∨ nI (dmA fr to ne) ≤ ib) := inv20.elim id (fun h => by rw [w21, h.1] at c24; exact absurd rfl c24)
      have eT : I21 = va_up I1 0 1 := by rw [eI21, hv.1]; rfl
      refine lv_lconst (v := 0) hx hb dX8_basis_27 (by decide) ?_
      refine hret 28 ls _ _ 0 (I21, A1, B1) dX8_basis_28 ?_ hP hD hS
      try dsimp only
      exact ⟨fun i hi he => by rw [he] at hv; exact hv.2.elim (fun h => absurd h (nI_pos (by omega))) (fun h => absurd ((nI_leI (by omega) (by omega)).mp h) (by omega)), fun _ => ⟨by rw [eT]; exact up_self, w1.2.2.fp.tr (fP.rf0 eT)⟩⟩
  refine lv_aload_n hx hb dX8_basis_5 rfl (lv_at hl 1 rfl) ?_
  refine lv_iload_n hx hb dX8_basis_6 rfl (lv_at hl 2 rfl) ?_
  refine lv_if_lt (tgt := 15) hx hb dX8_basis_7 (by decide) (fun c7 => ?_) (fun c7 => ?_)
  · -- 7 taken
    refine lv_iconst (v := 1) hx hb dX8_basis_15 (by decide) ?_
    refine lv_goto (tgt := 20) hx hb dX8_basis_16 (by decide) ?_
    exact K20 1 ls _ _  (Or.inl ⟨rfl, Or.inl c7⟩) hP hD hS (lv_sub hl [1, 2, 0] rfl)
  · -- 7 not
    refine lv_iload_n hx hb dX8_basis_10 rfl (lv_at hl 2 rfl) ?_
    refine lv_iload_n hx hb dX8_basis_11 rfl (lv_at hl 0 rfl) ?_
    refine lv_icmp_lt (tgt := 19) hx hb dX8_basis_12 (by decide) (fun c12 => ?_) (fun c12 => ?_)
    · -- 12 taken
      refine lv_iconst (v := 0) hx hb dX8_basis_19 (by decide) ?_
      exact K20 0 ls _ _  (Or.inr ⟨rfl, by obtain ⟨j, hj, ej⟩ := nI_of c7; exact ⟨j, (nI_ltI hj (by omega)).mp (by rw [← ej]; exact c12), ej⟩⟩) hP hD hS (lv_sub hl [1, 2, 0] rfl)
    · -- 12 not
      refine lv_iconst (v := 1) hx hb dX8_basis_15 (by decide) ?_
      refine lv_goto (tgt := 20) hx hb dX8_basis_16 (by decide) ?_
      exact K20 1 ls _ _  (Or.inl ⟨rfl, Or.inr (Int32.not_lt.mp c12)⟩) hP hD hS (lv_sub hl [1, 2, 0] rfl)
end
section
set_option maxHeartbeats 4000000 in
set_option maxRecDepth 100000 in
theorem k_X8_lightest (l : Launch) (dC : Nat → ClassId) (dI : Nat → Nat → Nat) (cI cJ cZ cII cJJ : ClassId) (R : Nat → Nat) (I : Nat → Int32) (A : Nat → Nat → Int32) (B : Nat → Nat → Int64) (nv ne : Nat) (fr to wt : Nat → Nat) (z : Nat) (g : gM nv ne fr to wt I A) (hz : z < 2 ^ 64) : ctL l (dC, dI) (tyL cI cJ cZ cII cJJ) (MW cI cJ cZ R) yX8_lightest wsX8_lightest (2, 60) [.ref (R 0), .long (lN z)] (I, A, B) (fun r u => (z < 2 ^ ne → u.1 0 = 0 ∧ fP I A B u ∧ r = (if (jRun fr to z ne).2.2.1 = 0 then lN (lgo fr to wt ne (gc nv (jRun fr to z ne)) (jRun fr to z ne) (wsum wt z ne)) else -1)) ∧ (¬ z < 2 ^ ne → u.1 0 = 1 ∧ fP I A B u)) := by
  refine ctL_intro (cc := cX8_lightest) (maxL := 8) (by decide) rfl (Nat.le_of_ble_eq_true rfl) ?_
  intro p e s m below meth c ls Aa Q F hK hN hP hD hS hA hl hret
  have hx := F.1
  have hb := F.2.1
  have hown : s.vm.findClass RX8 = some m.cls := F.2.2.2.1
  have hts := F.2.2.2.2
  have hinX8 : ∀ w ∈ wsX80, w ∈ wsX8_lightest := by decide +kernel
  have hf61 := hts (.fieldLink RX8 61 "CycleHouseModel" "m" "I") (by decide +kernel)
  have hf27 := hts (.fieldLink RX8 27 "CycleHouseModel" "group" "[I") (by decide +kernel)
  have hf13 := hts (.fieldLink RX8 13 "CycleHouseModel" "from" "[I") (by decide +kernel)
  have hf17 := hts (.fieldLink RX8 17 "CycleHouseModel" "to" "[I") (by decide +kernel)
  have hf20 := hts (.fieldLink RX8 20 "CycleHouseModel" "weight" "[I") (by decide +kernel)
  have hl : lv_has ls 8 [(0, .ref (R 0)), (1, .long (lN z))] := hl
  refine lv_aload_n hx hb dX8_lightest_0 rfl (lv_at hl 0 rfl) ?_
  refine lv_aload_n hx hb dX8_lightest_1 rfl (lv_at hl 0 rfl) ?_
  refine lv_lload_n hx hb dX8_lightest_2 rfl (lv_at hl 1 rfl) ?_
  have K14 : ∀ (o : Int32) (ls : Array Slot) (H : Heap) (locs : List Loc), (o = (if z < 2 ^ ne then 0 else 1)) → va_P (dC, dI) vwCl (MW cI cJ cZ R (I, A, B)) H → va_D Aa (MW cI cJ cZ R (I, A, B)) → va_S Aa s.heap H locs → lv_has ls 8 [(0, .ref (R 0)), (1, .long (lN z))] → W p l e (ctR (2, 60)) s m #[.ref (R 0), .long (lN z)] below meth c H locs 0 0 Q (F0 m 14 ls [.int o, .ref (R 0)]) := by
    intro o ls H locs inv14 hP hD hS hl
    refine lv_iconst (v := 0) hx hb dX8_lightest_14 (by decide) ?_
    refine ct_calli hD hS hA (va_runV (As := [.int o, .int 0]) (rest := []) F ((k_X8_throwing l dC dI cI cJ cZ cII cJJ R I A B o 0) _) (cwV 2 hts gX8_lightest_X8_throwing rfl rfl rfl (by decide +kernel) ⟨(Nat.le_of_ble_eq_true rfl), (Nat.le_of_ble_eq_true rfl)⟩) (ct_preV 0 8 hK hN hP hD rfl rfl) rfl rfl hl.1 rfl (lv_room (Nat.le_of_ble_eq_true rfl)) dX8_lightest_15 ⟨(Nat.le_of_ble_eq_true rfl), (Nat.le_of_ble_eq_true rfl)⟩) (fun r15 u15 H locs w15 hP hD hS => ?_)
    obtain ⟨w15, hu15⟩ := w15
    obtain ⟨I15, A15, B15⟩ := u15
    have eI15 := congrArg (fun z => z.1) hu15
    dsimp only at eI15
    have eA15 : A = A15 := (congrArg (fun z => z.2.1) hu15).symm
    subst eA15
    have eB15 : B = B15 := (congrArg (fun z => z.2.2) hu15).symm
    subst eB15
    clear hu15
    refine lv_if_eq (tgt := 23) hx hb dX8_lightest_18 (by decide) (fun c18 => ?_) (fun c18 => ?_)
    · -- 18 taken
      rw [w15, inv14] at c18
      have hv : z < 2 ^ ne := Classical.byContradiction (fun h => by rw [if_neg h] at c18; exact absurd c18 (by decide))
      have hz2 : z < 2 ^ 62 := pw40 hv g.2.2.1
      have eT : I15 = va_up I 0 0 := by rw [eI15, inv14, if_pos hv]; rfl
      have hfT : fP I A B (I15, A, B) := fP.rf0 eT
      have gT := g.fp hfT
      have e0 : I15 0 = 0 := by rw [eT]; exact up_self
      refine lv_aload_n hx hb dX8_lightest_23 rfl (lv_at hl 0 rfl) ?_
      refine lv_lload_n hx hb dX8_lightest_24 rfl (lv_at hl 1 rfl) ?_
      refine ct_calli hD hS hA (va_runV (As := [.long (lN z)]) (rest := []) F ((k_X8_beginsWith l dC dI cI cJ cZ cII cJJ R I15 A B nv ne fr to wt z gT hz2) _) (cwV 1 hts gX8_lightest_X8_beginsWith rfl rfl rfl (by decide +kernel) ⟨(Nat.le_of_ble_eq_true rfl), (Nat.le_of_ble_eq_true rfl)⟩) (ct_preV 0 8 hK hN hP hD rfl rfl) rfl rfl hl.1 rfl (lv_room (Nat.le_of_ble_eq_true rfl)) dX8_lightest_25 ⟨(Nat.le_of_ble_eq_true rfl), (Nat.le_of_ble_eq_true rfl)⟩) (fun r25 u25 H locs w25 hP hD hS => ?_)
      obtain ⟨I25, A25, B25⟩ := u25
      refine lv_if_ne (tgt := 35) hx hb dX8_lightest_28 (by decide) (fun c28 => ?_) (fun c28 => ?_)
      · -- 28 taken
        have c28 : (jRun fr to z ne).2.2.1 = 0 := Classical.byContradiction (fun h => by rw [w25.1, if_neg h] at c28; exact c28 rfl)
        refine lv_aload_n hx hb dX8_lightest_35 rfl (lv_at hl 0 rfl) ?_
        refine lv_lload_n hx hb dX8_lightest_36 rfl (lv_at hl 1 rfl) ?_
        refine ct_calll hD hS hA (va_runV (As := [.long (lN z)]) (rest := []) F ((k_X8_weightOf l dC dI cI cJ cZ cII cJJ R I25 A25 B25 nv ne fr to wt z (gT.fj w25.2.2) hz2) _) (cwV 1 hts gX8_lightest_X8_weightOf rfl rfl rfl (by decide +kernel) ⟨(Nat.le_of_ble_eq_true rfl), (Nat.le_of_ble_eq_true rfl)⟩) (ct_preV 0 8 hK hN hP hD rfl rfl) rfl rfl hl.1 rfl (lv_room (Nat.le_of_ble_eq_true rfl)) dX8_lightest_37 ⟨(Nat.le_of_ble_eq_true rfl), (Nat.le_of_ble_eq_true rfl)⟩) (fun r37 u37 H locs w37 hP hD hS => ?_)
        obtain ⟨w37, rfl⟩ := w37
        have er37 : r37 = lN (wsum wt z ne) := w37
        subst er37
        refine lv_lstore_n (lv' := [(3, .long (lN (wsum wt z ne))), (0, .ref (R 0)), (1, .long (lN z))]) hx hb dX8_lightest_40 rfl hl (by decide) rfl (fun ls hl => ?_)
        refine lv_iconst (v := 1) hx hb dX8_lightest_41 (by decide) ?_
        refine lv_istore (lv' := [(5, .int 1), (3, .long (lN (wsum wt z ne))), (0, .ref (R 0)), (1, .long (lN z))]) hx hb dX8_lightest_42 hl (by decide) rfl (fun ls hl => ?_)
        have K44 : ∀ (kn : Nat) (q : JS) (acc : Nat) (y : Int64) (mo : Int32) (I_44 : Nat → Int32) (A_44 : Nat → Nat → Int32) (B_44 : Nat → Nat → Int64) (ls : Array Slot) (H : Heap) (locs : List Loc), (if mo = 1 then gc nv q + 1 else 0) < kn → (y = lN acc ∧ rJ nv q I_44 A_44 B_44 ∧ jI nv q ∧ q.2.2.1 = 0 ∧ fP I A B (I_44, A_44, B_44) ∧ I_44 0 = 0 ∧ ((mo = 1 ∧ lgo fr to wt ne (gc nv (jRun fr to z ne)) (jRun fr to z ne) (wsum wt z ne) = lgo fr to wt ne (gc nv q) q acc) ∨ (mo = 0 ∧ lgo fr to wt ne (gc nv (jRun fr to z ne)) (jRun fr to z ne) (wsum wt z ne) = acc))) → va_P (dC, dI) vwCl (MW cI cJ cZ R (I_44, A_44, B_44)) H → va_D Aa (MW cI cJ cZ R (I_44, A_44, B_44)) → va_S Aa s.heap H locs → lv_has ls 8 [(0, .ref (R 0)), (1, .long (lN z)), (3, .long y), (5, .int mo)] → W p l e (ctR (2, 60)) s m #[.ref (R 0), .long (lN z)] below meth c H locs 0 0 Q (F0 m 44 ls []) := by
          intro kn
          induction kn with
          | zero => intro q acc y mo I_44 A_44 B_44 ls H locs hmu; exact absurd hmu (Nat.not_lt_zero _)
          | succ kn ih44 =>
            intro q acc y mo I_44 A_44 B_44 ls H locs mu44 inv44 hP hD hS hl
            obtain ⟨ey, hq, hji, hqd, hf, e0, hres⟩ := inv44
            obtain ⟨g1, g2, g3, g4, g5, g6⟩ := g.fp hf
            have gg := g.fp hf
            refine lv_iload hx hb dX8_lightest_44 (lv_at hl 3 rfl) ?_
            refine lv_if_eq (tgt := 170) hx hb dX8_lightest_46 (by decide) (fun c46 => ?_) (fun c46 => ?_)
            · -- 46 taken
              have hfin : lgo fr to wt ne (gc nv (jRun fr to z ne)) (jRun fr to z ne) (wsum wt z ne) = acc := hres.elim (fun h => by rw [h.1] at c46; exact absurd c46 (by decide)) (fun h => h.2)
              refine lv_lload_n hx hb dX8_lightest_170 rfl (lv_at hl 2 rfl) ?_
              refine hret 171 ls _ _ y (I_44, A_44, B_44) dX8_lightest_171 ?_ hP hD hS
              try dsimp only
              exact ⟨fun _ => ⟨e0, hf, by rw [if_pos c28, ey, hfin]⟩, fun h => absurd hv h⟩
            · -- 46 not
              have hmo : mo = 1 := hres.elim (fun h => h.1) (fun h => absurd h.1 c46)
              have hres1 : lgo fr to wt ne (gc nv (jRun fr to z ne)) (jRun fr to z ne) (wsum wt z ne) = lgo fr to wt ne (gc nv q) q acc := hres.elim (fun h => h.2) (fun h => absurd h.1 c46)
              refine lv_iconst (v := (-1)) hx hb dX8_lightest_49 (by decide) ?_
              refine lv_istore (lv' := [(6, .int ((-1))), (0, .ref (R 0)), (1, .long (lN z)), (3, .long y), (5, .int mo)]) hx hb dX8_lightest_50 hl (by decide) rfl (fun ls hl => ?_)
              refine lv_iconst (v := 0) hx hb dX8_lightest_52 (by decide) ?_
              refine lv_istore (lv' := [(7, .int 0), (6, .int ((-1))), (0, .ref (R 0)), (1, .long (lN z)), (3, .long y), (5, .int mo)]) hx hb dX8_lightest_53 hl (by decide) rfl (fun ls hl => ?_)
              have K55 : ∀ (kn : Nat) (i : Nat) (bb : Int32) (ls : Array Slot) (H : Heap) (locs : List Loc), ne - i < kn → (i ≤ ne ∧ bb = oI (bE1 fr to wt q i)) → va_P (dC, dI) vwCl (MW cI cJ cZ R (I_44, A_44, B_44)) H → va_D Aa (MW cI cJ cZ R (I_44, A_44, B_44)) → va_S Aa s.heap H locs → lv_has ls 8 [(0, .ref (R 0)), (1, .long (lN z)), (3, .long y), (5, .int mo), (6, .int bb), (7, .int (nI i))] → W p l e (ctR (2, 60)) s m #[.ref (R 0), .long (lN z)] below meth c H locs 0 0 Q (F0 m 55 ls []) := by
                intro kn
                induction kn with
                | zero => intro i bb ls H locs hmu; exact absurd hmu (Nat.not_lt_zero _)
                | succ kn ih55 =>
                  intro i bb ls H locs mu55 inv55 hP hD hS hl
                  obtain ⟨hi, eb⟩ := inv55
                  refine lv_iload hx hb dX8_lightest_55 (lv_at hl 5 rfl) ?_
                  refine lv_aload_n hx hb dX8_lightest_57 rfl (lv_at hl 0 rfl) ?_
                  refine va_get (D := (dC, dI)) (ci := 8) (v := .int (I_44 2)) (C := RX8) (T := TX8) (N := 20) hx hb hts hinX8 hown hK hP 0 rfl rfl 2 (by decide) hf61 (fun _ h9 => h9) rfl dX8_lightest_58 ?_
                  refine lv_icmp_ge (tgt := 126) hx hb dX8_lightest_61 (by decide) (fun c61 => ?_) (fun c61 => ?_)
                  · -- 61 taken
                    rw [show I_44 2 = nI ne from g5, nI_leI (by omega) (by omega)] at c61
                    have hge : i = ne := by omega
                    rw [hge] at eb
                    refine lv_iload hx hb dX8_lightest_126 (lv_at hl 4 rfl) ?_
                    refine lv_if_lt (tgt := 144) hx hb dX8_lightest_128 (by decide) (fun c128 => ?_) (fun c128 => ?_)
                    · -- 128 taken
                      have hbn : bE1 fr to wt q ne = none := by
                        cases h : bE1 fr to wt q ne with
                        | none => rfl
                        | some b1 => rw [eb, h] at c128; exact absurd c128 (nI_pos (by have := (bE1_in h).1; omega))
                      refine lv_iconst (v := 0) hx hb dX8_lightest_144 (by decide) ?_
                      refine lv_istore (lv' := [(5, .int 0), (0, .ref (R 0)), (1, .long (lN z)), (3, .long y), (6, .int bb), (7, .int (nI i))]) hx hb dX8_lightest_145 hl (by decide) rfl (fun ls hl => ?_)
                      refine lv_lload_n hx hb dX8_lightest_147 rfl (lv_at hl 3 rfl) ?_
                      refine lv_iload hx hb dX8_lightest_148 (lv_at hl 0 rfl) ?_
                      refine lv_if_eq (tgt := 164) hx hb dX8_lightest_150 (by decide) (fun c150 => ?_) (fun c150 => ?_)
                      · -- 150 taken
                        refine lv_lconst (v := 0) hx hb dX8_lightest_164 (by decide) ?_
                        refine lv_ladd hx hb dX8_lightest_165 ?_
                        refine lv_topl (fun x165 ex165 => ?_)
                        refine lv_lstore_n (lv' := [(3, .long x165), (5, .int 0), (0, .ref (R 0)), (1, .long (lN z)), (6, .int bb), (7, .int (nI i))]) hx hb dX8_lightest_166 rfl hl (by decide) rfl (fun ls hl => ?_)
                        refine lv_goto (tgt := 44) hx hb dX8_lightest_167 (by decide) ?_
                        exact ih44 q acc x165 0 I_44 A_44 B_44 ls _ _ (by rw [if_neg (by decide)]; rw [if_pos hmo] at mu44; omega) ⟨by rw [ex165, ey]; exact Int64.add_zero _, hq, hji, hqd, hf, e0, Or.inr ⟨rfl, by rw [hres1, lgo_none hbn]⟩⟩ hP hD hS (lv_sub hl [2, 3, 0, 1] rfl)
                      · exact absurd c150 (Classical.not_not.mpr rfl)
                    · -- 128 not
                      obtain ⟨b0, hbs⟩ : ∃ b0, bE1 fr to wt q ne = some b0 := by
                        cases h : bE1 fr to wt q ne with
                        | some b1 => exact ⟨b1, rfl⟩
                        | none => rw [eb, h] at c128; exact absurd (by decide) c128
                      have hb0 := (bE1_in hbs).1
                      have hb2 := (bE1_in hbs).2
                      have eb2 : bb = nI b0 := by rw [eb, hbs]; rfl
                      have bcl2 : (nI b0).toNatClampNeg = b0 := nI_clamp (by omega)
                      have gb0 := g6 b0 hb0
                      have hgc := gc_join (N := nv) (e := b0) hji gb0.1.2 gb0.2.1.2 hb2
                      subst eb2
                      refine lv_aload_n hx hb dX8_lightest_131 rfl (lv_at hl 0 rfl) ?_
                      refine lv_iload hx hb dX8_lightest_132 (lv_at hl 4 rfl) ?_
                      refine ct_calli hD hS hA (va_runV (As := [.int (nI b0)]) (rest := []) F ((k_X8_joins l dC dI cI cJ cZ cII cJJ R I_44 A_44 B_44 nv ne fr to wt b0 q gg hb0 hq (by rw [hqd]; decide)) _) (cwV 1 hts gX8_lightest_X8_joins rfl rfl rfl (by decide +kernel) ⟨(Nat.le_of_ble_eq_true rfl), (Nat.le_of_ble_eq_true rfl)⟩) (ct_preV 0 8 hK hN hP hD rfl rfl) rfl rfl hl.1 rfl (lv_room (Nat.le_of_ble_eq_true rfl)) dX8_lightest_134 ⟨(Nat.le_of_ble_eq_true rfl), (Nat.le_of_ble_eq_true rfl)⟩) (fun r134 u134 H locs w134 hP hD hS => ?_)
                      obtain ⟨I134, A134, B134⟩ := u134
                      have gb := (gg.fj w134.2.2).2.2.2.2.2 b0 hb0
                      refine lv_if_eq (tgt := 144) hx hb dX8_lightest_137 (by decide) (fun c137 => ?_) (fun c137 => ?_)
                      · exact absurd c137 (by rw [w134.1, if_neg hb2]; decide)
                      · -- 137 not
                        refine lv_iconst (v := 1) hx hb dX8_lightest_140 (by decide) ?_
                        refine lv_goto (tgt := 145) hx hb dX8_lightest_141 (by decide) ?_
                        refine lv_istore (lv' := [(5, .int 1), (0, .ref (R 0)), (1, .long (lN z)), (3, .long y), (6, .int (nI b0)), (7, .int (nI i))]) hx hb dX8_lightest_145 hl (by decide) rfl (fun ls hl => ?_)
                        refine lv_lload_n hx hb dX8_lightest_147 rfl (lv_at hl 3 rfl) ?_
                        refine lv_iload hx hb dX8_lightest_148 (lv_at hl 0 rfl) ?_
                        refine lv_if_eq (tgt := 164) hx hb dX8_lightest_150 (by decide) (fun c150 => ?_) (fun c150 => ?_)
                        · exact absurd c150 (by decide)
                        · -- 150 not
                          refine lv_aload_n hx hb dX8_lightest_153 rfl (lv_at hl 1 rfl) ?_
                          refine va_get (D := (dC, dI)) (ci := 8) (v := .ref (R 5)) (C := RX8) (T := TX8) (N := 20) hx hb hts hinX8 hown hK hP 0 rfl rfl 5 (by decide) hf20 (fun _ h9 => h9) rfl dX8_lightest_154 ?_
                          refine lv_iload hx hb dX8_lightest_157 (lv_at hl 4 rfl) ?_
                          have h159 : vp_in (nI b0) 40 := vp_in_nI (by omega) (by omega)
                          refine va_iald hx hb hK hP 3 0 rfl rfl h159 dX8_lightest_159 ?_
                          refine lv_topi (fun x159 ex159 => ?_)
                          have ex159 : x159 = A134 5 (nI b0).toNatClampNeg := ex159
                          refine lv_i2l hx hb dX8_lightest_160 rfl ?_
                          refine lv_topl (fun x160 ex160 => ?_)
                          refine lv_goto (tgt := 165) hx hb dX8_lightest_161 (by decide) ?_
                          refine lv_ladd hx hb dX8_lightest_165 ?_
                          refine lv_topl (fun x165 ex165 => ?_)
                          refine lv_lstore_n (lv' := [(3, .long x165), (5, .int 1), (0, .ref (R 0)), (1, .long (lN z)), (6, .int (nI b0)), (7, .int (nI i))]) hx hb dX8_lightest_166 rfl hl (by decide) rfl (fun ls hl => ?_)
                          refine lv_goto (tgt := 44) hx hb dX8_lightest_167 (by decide) ?_
                          exact ih44 (jStep (fr b0) (to b0) b0 q) (acc + wt b0) x165 1 I134 A134 B134 ls _ _ (by rw [if_pos rfl]; rw [if_pos hmo] at mu44; omega) ⟨by rw [ex165, ey, ex160, ex159, bcl2, show A134 5 b0 = nI (wt b0) from (gb).2.2.1, nm_il (by have := gb.2.2.2; omega), lN_add], w134.2.1, jI_step hji gb.1.2 gb.2.1.2, by rw [jd_join hb2]; exact hqd, hf.tr w134.2.2.fp, (w134.2.2.1 0 (by decide)).trans e0, Or.inl ⟨rfl, by rw [hres1, ← hgc, lgo_some hbs]⟩⟩ hP hD hS (lv_sub hl [2, 3, 0, 1] rfl)
                  · -- 61 not
                    rw [show I_44 2 = nI ne from g5, nI_leI (by omega) (by omega)] at c61
                    have icl : (nI i).toNatClampNeg = i := nI_clamp (by omega)
                    have iin : vp_in (nI i) 40 := vp_in_nI (by omega) (by omega)
                    have gi := g6 i (by omega)
                    have acl : (nI (fr i)).toNatClampNeg = fr i := nI_clamp (by have := gi.1.2; omega)
                    have bcl : (nI (to i)).toNatClampNeg = to i := nI_clamp (by have := gi.2.1.2; omega)
                    have l1 := (hq.1 _ gi.1.2).2
                    have l2 := (hq.1 _ gi.2.1.2).2
                    refine lv_aload_n hx hb dX8_lightest_64 rfl (lv_at hl 0 rfl) ?_
                    refine va_get (D := (dC, dI)) (ci := 8) (v := .ref (R 8)) (C := RX8) (T := TX8) (N := 20) hx hb hts hinX8 hown hK hP 0 rfl rfl 8 (by decide) hf27 (fun _ h9 => h9) rfl dX8_lightest_65 ?_
                    refine lv_aload_n hx hb dX8_lightest_68 rfl (lv_at hl 0 rfl) ?_
                    refine va_get (D := (dC, dI)) (ci := 8) (v := .ref (R 3)) (C := RX8) (T := TX8) (N := 20) hx hb hts hinX8 hown hK hP 0 rfl rfl 3 (by decide) hf13 (fun _ h9 => h9) rfl dX8_lightest_69 ?_
                    refine lv_iload hx hb dX8_lightest_72 (lv_at hl 5 rfl) ?_
                    have h74 : vp_in (nI i) 40 := iin
                    refine va_iald hx hb hK hP 1 0 rfl rfl h74 dX8_lightest_74 ?_
                    refine lv_topi (fun x74 ex74 => ?_)
                    have ex74 : x74 = A_44 3 (nI i).toNatClampNeg := ex74
                    have ex74 : x74 = nI (fr i) := by rw [ex74, icl]; exact gi.1.1
                    subst ex74
                    have h75 : vp_in (nI (fr i)) 16 := vp_in_nI (by have := gi.1.2; omega) (by omega)
                    refine va_iald hx hb hK hP 5 0 rfl rfl h75 dX8_lightest_75 ?_
                    refine lv_topi (fun x75 ex75 => ?_)
                    have ex75 : x75 = A_44 8 (nI (fr i)).toNatClampNeg := ex75
                    have ex75 : x75 = nI (q.1 (fr i)) := by rw [ex75, acl]; exact (hq.1 _ gi.1.2).1
                    subst ex75
                    refine lv_aload_n hx hb dX8_lightest_76 rfl (lv_at hl 0 rfl) ?_
                    refine va_get (D := (dC, dI)) (ci := 8) (v := .ref (R 8)) (C := RX8) (T := TX8) (N := 20) hx hb hts hinX8 hown hK hP 0 rfl rfl 8 (by decide) hf27 (fun _ h9 => h9) rfl dX8_lightest_77 ?_
                    refine lv_aload_n hx hb dX8_lightest_80 rfl (lv_at hl 0 rfl) ?_
                    refine va_get (D := (dC, dI)) (ci := 8) (v := .ref (R 4)) (C := RX8) (T := TX8) (N := 20) hx hb hts hinX8 hown hK hP 0 rfl rfl 4 (by decide) hf17 (fun _ h9 => h9) rfl dX8_lightest_81 ?_
                    refine lv_iload hx hb dX8_lightest_84 (lv_at hl 5 rfl) ?_
                    have h86 : vp_in (nI i) 40 := iin
                    refine va_iald hx hb hK hP 2 0 rfl rfl h86 dX8_lightest_86 ?_
                    refine lv_topi (fun x86 ex86 => ?_)
                    have ex86 : x86 = A_44 4 (nI i).toNatClampNeg := ex86
                    have ex86 : x86 = nI (to i) := by rw [ex86, icl]; exact gi.2.1.1
                    subst ex86
                    have h87 : vp_in (nI (to i)) 16 := vp_in_nI (by have := gi.2.1.2; omega) (by omega)
                    refine va_iald hx hb hK hP 5 0 rfl rfl h87 dX8_lightest_87 ?_
                    refine lv_topi (fun x87 ex87 => ?_)
                    have ex87 : x87 = A_44 8 (nI (to i)).toNatClampNeg := ex87
                    have ex87 : x87 = nI (q.1 (to i)) := by rw [ex87, bcl]; exact (hq.1 _ gi.2.1.2).1
                    subst ex87
                    refine lv_icmp_ne (tgt := 94) hx hb dX8_lightest_88 (by decide) (fun c88 => ?_) (fun c88 => ?_)
                    · -- 88 taken
                      rw [nI_eq (by omega) (by omega)] at c88
                      refine lv_iload hx hb dX8_lightest_94 (lv_at hl 4 rfl) ?_
                      refine lv_if_lt (tgt := 116) hx hb dX8_lightest_96 (by decide) (fun c96 => ?_) (fun c96 => ?_)
                      · -- 96 taken
                        have c96 : bE1 fr to wt q i = none := by
                          cases h : bE1 fr to wt q i with
                          | none => rfl
                          | some b1 => rw [eb, h] at c96; exact absurd c96 (nI_pos (by have := (bE1_in h).1; omega))
                        refine lv_iload hx hb dX8_lightest_116 (lv_at hl 5 rfl) ?_
                        refine lv_istore (lv' := [(6, .int (nI i)), (0, .ref (R 0)), (1, .long (lN z)), (3, .long y), (5, .int mo), (7, .int (nI i))]) hx hb dX8_lightest_118 hl (by decide) rfl (fun ls hl => ?_)
                        obtain ⟨x120, ex120⟩ : ∃ zz : Int32, zz = nI i + (1) := ⟨_, rfl⟩
                        refine lv_iinc (v := x120) (lv' := [(7, .int x120), (6, .int (nI i)), (0, .ref (R 0)), (1, .long (lN z)), (3, .long y), (5, .int mo)]) hx hb dX8_lightest_120 hl (k := 5) rfl (by rw [ex120]; rfl) (by decide) rfl (fun ls hl => ?_)
                        have ex120 : x120 = nI (i + 1) := by rw [ex120]; exact nI_1 i
                        subst ex120
                        refine lv_goto (tgt := 55) hx hb dX8_lightest_123 (by decide) ?_
                        exact ih55 (i + 1) (nI i) ls _ _ (by omega) ⟨by omega, by rw [bE1_first c88 c96]; rfl⟩ hP hD hS (lv_sub hl [2, 3, 4, 5, 1, 0] rfl)
                      · -- 96 not
                        obtain ⟨b0, hbs⟩ : ∃ b0, bE1 fr to wt q i = some b0 := by
                          cases h : bE1 fr to wt q i with
                          | some b1 => exact ⟨b1, rfl⟩
                          | none => rw [eb, h] at c96; exact absurd (by decide) c96
                        have hb0 := (bE1_in hbs).1
                        have eb2 : bb = nI b0 := by rw [eb, hbs]; rfl
                        have bcl2 : bb.toNatClampNeg = b0 := by rw [eb2]; exact nI_clamp (by omega)
                        have gb := g6 b0 (by omega)
                        refine lv_aload_n hx hb dX8_lightest_99 rfl (lv_at hl 0 rfl) ?_
                        refine va_get (D := (dC, dI)) (ci := 8) (v := .ref (R 5)) (C := RX8) (T := TX8) (N := 20) hx hb hts hinX8 hown hK hP 0 rfl rfl 5 (by decide) hf20 (fun _ h9 => h9) rfl dX8_lightest_100 ?_
                        refine lv_iload hx hb dX8_lightest_103 (lv_at hl 5 rfl) ?_
                        have h105 : vp_in (nI i) 40 := iin
                        refine va_iald hx hb hK hP 3 0 rfl rfl h105 dX8_lightest_105 ?_
                        refine lv_topi (fun x105 ex105 => ?_)
                        have ex105 : x105 = A_44 5 (nI i).toNatClampNeg := ex105
                        have ex105 : x105 = nI (wt i) := by rw [ex105, icl]; exact gi.2.2.1
                        subst ex105
                        refine lv_aload_n hx hb dX8_lightest_106 rfl (lv_at hl 0 rfl) ?_
                        refine va_get (D := (dC, dI)) (ci := 8) (v := .ref (R 5)) (C := RX8) (T := TX8) (N := 20) hx hb hts hinX8 hown hK hP 0 rfl rfl 5 (by decide) hf20 (fun _ h9 => h9) rfl dX8_lightest_107 ?_
                        refine lv_iload hx hb dX8_lightest_110 (lv_at hl 4 rfl) ?_
                        have h112 : vp_in bb 40 := by rw [eb2]; exact vp_in_nI (by omega) (by omega)
                        refine va_iald hx hb hK hP 3 0 rfl rfl h112 dX8_lightest_112 ?_
                        refine lv_topi (fun x112 ex112 => ?_)
                        have ex112 : x112 = A_44 5 bb.toNatClampNeg := ex112
                        have ex112 : x112 = nI (wt b0) := by rw [ex112, bcl2]; exact gb.2.2.1
                        have l3 := gb.2.2.2
                        have l4 := gi.2.2.2
                        refine lv_icmp_ge (tgt := 120) hx hb dX8_lightest_113 (by decide) (fun c113 => ?_) (fun c113 => ?_)
                        · -- 113 taken
                          rw [ex112, nI_leI (by omega) (by omega)] at c113
                          obtain ⟨x120, ex120⟩ : ∃ zz : Int32, zz = nI i + (1) := ⟨_, rfl⟩
                          refine lv_iinc (v := x120) (lv' := [(7, .int x120), (0, .ref (R 0)), (1, .long (lN z)), (3, .long y), (5, .int mo), (6, .int bb)]) hx hb dX8_lightest_120 hl (k := 5) rfl (by rw [ex120]; rfl) (by decide) rfl (fun ls hl => ?_)
                          have ex120 : x120 = nI (i + 1) := by rw [ex120]; exact nI_1 i
                          subst ex120
                          refine lv_goto (tgt := 55) hx hb dX8_lightest_123 (by decide) ?_
                          exact ih55 (i + 1) bb ls _ _ (by omega) ⟨by omega, by rw [bE1_keep c88 hbs (by omega), eb, hbs]⟩ hP hD hS (lv_sub hl [1, 2, 3, 4, 5, 0] rfl)
                        · -- 113 not
                          rw [ex112, nI_leI (by omega) (by omega)] at c113
                          refine lv_iload hx hb dX8_lightest_116 (lv_at hl 5 rfl) ?_
                          refine lv_istore (lv' := [(6, .int (nI i)), (0, .ref (R 0)), (1, .long (lN z)), (3, .long y), (5, .int mo), (7, .int (nI i))]) hx hb dX8_lightest_118 hl (by decide) rfl (fun ls hl => ?_)
                          obtain ⟨x120, ex120⟩ : ∃ zz : Int32, zz = nI i + (1) := ⟨_, rfl⟩
                          refine lv_iinc (v := x120) (lv' := [(7, .int x120), (6, .int (nI i)), (0, .ref (R 0)), (1, .long (lN z)), (3, .long y), (5, .int mo)]) hx hb dX8_lightest_120 hl (k := 5) rfl (by rw [ex120]; rfl) (by decide) rfl (fun ls hl => ?_)
                          have ex120 : x120 = nI (i + 1) := by rw [ex120]; exact nI_1 i
                          subst ex120
                          refine lv_goto (tgt := 55) hx hb dX8_lightest_123 (by decide) ?_
                          exact ih55 (i + 1) (nI i) ls _ _ (by omega) ⟨by omega, by rw [bE1_less c88 hbs (by omega)]; rfl⟩ hP hD hS (lv_sub hl [2, 3, 4, 5, 1, 0] rfl)
                    · -- 88 not
                      rw [nI_eq (by omega) (by omega)] at c88
                      refine lv_goto (tgt := 120) hx hb dX8_lightest_91 (by decide) ?_
                      obtain ⟨x120, ex120⟩ : ∃ zz : Int32, zz = nI i + (1) := ⟨_, rfl⟩
                      refine lv_iinc (v := x120) (lv' := [(7, .int x120), (0, .ref (R 0)), (1, .long (lN z)), (3, .long y), (5, .int mo), (6, .int bb)]) hx hb dX8_lightest_120 hl (k := 5) rfl (by rw [ex120]; rfl) (by decide) rfl (fun ls hl => ?_)
                      have ex120 : x120 = nI (i + 1) := by rw [ex120]; exact nI_1 i
                      subst ex120
                      refine lv_goto (tgt := 55) hx hb dX8_lightest_123 (by decide) ?_
                      exact ih55 (i + 1) bb ls _ _ (by omega) ⟨by omega, by rw [bE1_same c88]; exact eb⟩ hP hD hS (lv_sub hl [1, 2, 3, 4, 5, 0] rfl)
              exact K55 _ 0 ((-1)) ls _ _ (Nat.lt_succ_self _) ⟨Nat.zero_le _, rfl⟩ hP hD hS (lv_sub hl [2, 3, 4, 5, 1, 0] rfl)
        exact K44 _ (jRun fr to z ne) (wsum wt z ne) (lN (wsum wt z ne)) 1 I25 A25 B25 ls _ _ (Nat.lt_succ_self _) ⟨rfl, w25.2.1, jI_run ne (fun e he _ => g.en e he), c28, hfT.tr w25.2.2.fp, (w25.2.2.1 0 (by decide)).trans e0, Or.inl ⟨rfl, rfl⟩⟩ hP hD hS (lv_sub hl [2, 3, 1, 0] rfl)
      · -- 28 not
        have c28 : ¬ (jRun fr to z ne).2.2.1 = 0 := fun h => by rw [w25.1, if_pos h] at c28; exact absurd c28 (by decide)
        refine lv_ldc2 (v := (-1)) hx hb hown (hts (.constantLong RX8 111 (-1)) (by decide +kernel)) dX8_lightest_31 ?_
        refine hret 34 ls _ _ ((-1)) (I25, A25, B25) dX8_lightest_34 ?_ hP hD hS
        try dsimp only
        exact ⟨fun _ => ⟨(w25.2.2.1 0 (by decide)).trans e0, hfT.tr w25.2.2.fp, by rw [if_neg c28]⟩, fun h => absurd hv h⟩
    · -- 18 not
      rw [w15, inv14] at c18
      have hv : ¬ z < 2 ^ ne := fun h => by rw [if_pos h] at c18; exact c18 rfl
      have eT : I15 = va_up I 0 1 := by rw [eI15, inv14, if_neg hv]; rfl
      refine lv_lconst (v := 0) hx hb dX8_lightest_21 (by decide) ?_
      refine hret 22 ls _ _ 0 (I15, A, B) dX8_lightest_22 ?_ hP hD hS
      try dsimp only
      exact ⟨fun h => absurd h hv, fun _ => ⟨by rw [eT]; exact up_self, fP.rf0 eT⟩⟩
  refine ct_calli hD hS hA (va_runV (As := [.long (lN z)]) (rest := [.ref (R 0)]) F ((k_X8_isSet l dC dI cI cJ cZ cII cJJ R I A B (lN z)) _) (cwV 1 hts gX8_lightest_X8_isSet rfl rfl rfl (by decide +kernel) ⟨(Nat.le_of_ble_eq_true rfl), (Nat.le_of_ble_eq_true rfl)⟩) (ct_preV 0 8 hK hN hP hD rfl rfl) rfl rfl hl.1 rfl (lv_room (Nat.le_of_ble_eq_true rfl)) dX8_lightest_3 ⟨(Nat.le_of_ble_eq_true rfl), (Nat.le_of_ble_eq_true rfl)⟩) (fun r3 u3 H locs w3 hP hD hS => ?_)
  obtain ⟨w3, rfl⟩ := w3
  refine lv_if_ne (tgt := 13) hx hb dX8_lightest_6 (by decide) (fun c6 => ?_) (fun c6 => ?_)
  · -- 6 taken
    rw [w3, g.2.2.2.2.1] at c6
    have c6 : z < 2 ^ ne := (nm_set hz g.2.2.1).mp (Classical.byContradiction (fun h => by rw [if_neg h] at c6; exact c6 rfl))
    refine lv_iconst (v := 0) hx hb dX8_lightest_13 (by decide) ?_
    exact K14 0 ls _ _  (by rw [if_pos c6]) hP hD hS (lv_sub hl [0, 1] rfl)
  · -- 6 not
    rw [w3, g.2.2.2.2.1] at c6
    have c6 : ¬ z < 2 ^ ne := fun h => by rw [if_pos ((nm_set hz g.2.2.1).mpr h)] at c6; exact absurd c6 (by decide)
    refine lv_iconst (v := 1) hx hb dX8_lightest_9 (by decide) ?_
    refine lv_goto (tgt := 14) hx hb dX8_lightest_10 (by decide) ?_
    exact K14 1 ls _ _  (by rw [if_neg c6]) hP hD hS (lv_sub hl [0, 1] rfl)
end
section
-- the class's cells and what they tell
/-- the graph -/
def gH (nv ne : Nat) (fr to wt : Nat → Nat) (I : Nat → Int32) (A : Nat → Nat → Int32) : Prop :=
  1 ≤ nv ∧ nv ≤ 16 ∧ ne ≤ 40 ∧ I 0 = nI nv ∧ I 1 = nI ne ∧ ∀ e, e < ne → (A 2 e = nI (fr e) ∧ fr e < nv) ∧ (A 3 e = nI (to e) ∧ to e < nv) ∧ A 4 e = nI (wt e) ∧ wt e ≤ 1000000000
theorem gH.en {nv ne : Nat} {fr to wt : Nat → Nat} {I : Nat → Int32} {A : Nat → Nat → Int32} (g : gH nv ne fr to wt I A) : ∀ e, e < ne → fr e < nv ∧ to e < nv := fun e he => ⟨(g.2.2.2.2.2 e he).1.2, (g.2.2.2.2.2 e he).2.1.2⟩
/-- the groups: names, ways, how many -/
def rQ (N : Nat) (q : JS) (I : Nat → Int32) (A : Nat → Nat → Int32) (B : Nat → Nat → Int64) : Prop := rG N q.1 (A 8) ∧ rW N q.2.1 (B 9) ∧ I 4 = nI N ∧ I 5 = nI (gc N q)
/-- what the groups' work leaves as it was -/
def fG (I : Nat → Int32) (A : Nat → Nat → Int32) (B : Nat → Nat → Int64) (C : Nat → Nat → Int32) (T : Nat → Nat → Int64) (u : sgH) : Prop :=
  (∀ k, k ≠ 4 → k ≠ 5 → u.1 k = I k) ∧ (∀ k, k ≠ 8 → u.2.1 k = A k) ∧ (∀ k, k ≠ 9 → u.2.2.1 k = B k) ∧ u.2.2.2.1 = C ∧ u.2.2.2.2 = T
theorem fG.rf {I : Nat → Int32} {A : Nat → Nat → Int32} {B : Nat → Nat → Int64} {C : Nat → Nat → Int32} {T : Nat → Nat → Int64} : fG I A B C T (I, A, B, C, T) := ⟨fun _ _ _ => rfl, fun _ _ => rfl, fun _ _ => rfl, rfl, rfl⟩
theorem fG.of {I I' : Nat → Int32} {A A' : Nat → Nat → Int32} {B B' : Nat → Nat → Int64} {C C' : Nat → Nat → Int32} {T T' : Nat → Nat → Int64} (h1 : ∀ k, k ≠ 4 → k ≠ 5 → I' k = I k) (h2 : ∀ k, k ≠ 8 → A' k = A k) (h3 : ∀ k, k ≠ 9 → B' k = B k) (h4 : C' = C) (h5 : T' = T) : fG I A B C T (I', A', B', C', T') := ⟨h1, h2, h3, h4, h5⟩
theorem fG.tr {I I1 : Nat → Int32} {A A1 : Nat → Nat → Int32} {B B1 : Nat → Nat → Int64} {C C1 : Nat → Nat → Int32} {T T1 : Nat → Nat → Int64} {u : sgH} (h : fG I A B C T (I1, A1, B1, C1, T1)) (h2 : fG I1 A1 B1 C1 T1 u) : fG I A B C T u :=
  ⟨fun k a b => (h2.1 k a b).trans (h.1 k a b), fun k a => (h2.2.1 k a).trans (h.2.1 k a), fun k a => (h2.2.2.1 k a).trans (h.2.2.1 k a), h2.2.2.2.1.trans h.2.2.2.1, h2.2.2.2.2.trans h.2.2.2.2⟩
theorem gH.fg {nv ne : Nat} {fr to wt : Nat → Nat} {I : Nat → Int32} {A : Nat → Nat → Int32} {B : Nat → Nat → Int64} {C : Nat → Nat → Int32} {T : Nat → Nat → Int64} {u : sgH} (g : gH nv ne fr to wt I A) (h : fG I A B C T u) : gH nv ne fr to wt u.1 u.2.1 := by
  obtain ⟨g1, g2, g3, g4, g5, g6⟩ := g
  refine ⟨g1, g2, g3, by rw [h.1 0 (by decide) (by decide)]; exact g4, by rw [h.1 1 (by decide) (by decide)]; exact g5, ?_⟩
  rw [h.2.1 2 (by decide), h.2.1 3 (by decide), h.2.1 4 (by decide)]
  exact g6
end
section
set_option maxHeartbeats 4000000 in
set_option maxRecDepth 100000 in
theorem k_X3_part (l : Launch) (dC : Nat → ClassId) (dI : Nat → Nat → Nat) (cI cJ cZ cII cJJ : ClassId) (R : Nat → Nat) (I : Nat → Int32) (A : Nat → Nat → Int32) (B : Nat → Nat → Int64) (C : Nat → Nat → Int32) (T : Nat → Nat → Int64) (N : Nat) (hN : N ≤ 16) : ctV l (dC, dI) (tyL cI cJ cZ cII cJJ) (HW cI cJ cII cJJ R) yX3_part wsX3_part (0, 0) [.ref (R 7), .int (nI N)] (I, A, B, C, T) (fun u => rQ N j0 u.1 u.2.1 u.2.2.1 ∧ fG I A B C T u) := by
  refine ctV_intro (cc := cX3_part) (maxL := 3) (by decide) rfl (Nat.le_of_ble_eq_true rfl) ?_
  intro p e s m below meth c ls Aa Q F hK hN hP hD hS hA hl hret
  have hx := F.1
  have hb := F.2.1
  have hown : s.vm.findClass RX3 = some m.cls := F.2.2.2.1
  have hts := F.2.2.2.2
  have hinX3 : ∀ w ∈ wsX30, w ∈ wsX3_part := by decide +kernel
  have hf19 := hts (.fieldLink RX3 19 "CycleHouse$Groups" "vertices" "I") (by decide +kernel)
  have hf23 := hts (.fieldLink RX3 23 "CycleHouse$Groups" "count" "I") (by decide +kernel)
  have hf9 := hts (.fieldLink RX3 9 "CycleHouse$Groups" "name" "[I") (by decide +kernel)
  have hf15 := hts (.fieldLink RX3 15 "CycleHouse$Groups" "way" "[J") (by decide +kernel)
  have hl : lv_has ls 3 [(0, .ref (R 7)), (1, .int (nI N))] := hl
  refine lv_aload_n hx hb dX3_part_0 rfl (lv_at hl 0 rfl) ?_
  refine lv_iload_n hx hb dX3_part_1 rfl (lv_at hl 1 rfl) ?_
  refine va_put (D := (dC, dI)) (ci := 3) (v := .int (nI N)) (ty := .int) (C := RX3) (T := TX3) (N := 4) hx hb hts hinX3 tyX3 tyX3_ok nmX3 hown hK hP hD hS 7 rfl rfl 0 (by decide) hf19 (fun _ h9 => h9) rfl (by decide +kernel) rfl rfl (Nat.le_of_ble_eq_true rfl) dX3_part_2 (fun H locs hP hD hS => ?_)
  obtain ⟨I2, eI2⟩ : ∃ zz : Nat → Int32, zz = va_up I 4 (nI N) := ⟨_, rfl⟩
  have hP : va_P (dC, dI) vwCl (HW cI cJ cII cJJ R (I2, A, B, C, T)) H := by rw [eI2]; exact hP
  have hD : va_D Aa (HW cI cJ cII cJJ R (I2, A, B, C, T)) := by rw [eI2]; exact hD
  refine lv_aload_n hx hb dX3_part_5 rfl (lv_at hl 0 rfl) ?_
  refine lv_iload_n hx hb dX3_part_6 rfl (lv_at hl 1 rfl) ?_
  refine va_put (D := (dC, dI)) (ci := 3) (v := .int (nI N)) (ty := .int) (C := RX3) (T := TX3) (N := 4) hx hb hts hinX3 tyX3 tyX3_ok nmX3 hown hK hP hD hS 7 rfl rfl 1 (by decide) hf23 (fun _ h9 => h9) rfl (by decide +kernel) rfl rfl (Nat.le_of_ble_eq_true rfl) dX3_part_7 (fun H locs hP hD hS => ?_)
  obtain ⟨I7, eI7⟩ : ∃ zz : Nat → Int32, zz = va_up I2 5 (nI N) := ⟨_, rfl⟩
  have hP : va_P (dC, dI) vwCl (HW cI cJ cII cJJ R (I7, A, B, C, T)) H := by rw [eI7]; exact hP
  have hD : va_D Aa (HW cI cJ cII cJJ R (I7, A, B, C, T)) := by rw [eI7]; exact hD
  refine lv_iconst (v := 0) hx hb dX3_part_10 (by decide) ?_
  refine lv_istore_n (lv' := [(2, .int 0), (0, .ref (R 7)), (1, .int (nI N))]) hx hb dX3_part_11 rfl hl (by decide) rfl (fun ls hl => ?_)
  have K12 : ∀ (kn : Nat) (i : Nat) (A_12 : Nat → Nat → Int32) (B_12 : Nat → Nat → Int64) (ls : Array Slot) (H : Heap) (locs : List Loc), N - i < kn → (i ≤ N ∧ (∀ k, k ≠ 8 → A_12 k = A k) ∧ (∀ v, v < i → A_12 8 v = nI v) ∧ (∀ k, k ≠ 9 → B_12 k = B k) ∧ ∀ v, v < i → B_12 9 v = 0) → va_P (dC, dI) vwCl (HW cI cJ cII cJJ R (I7, A_12, B_12, C, T)) H → va_D Aa (HW cI cJ cII cJJ R (I7, A_12, B_12, C, T)) → va_S Aa s.heap H locs → lv_has ls 3 [(0, .ref (R 7)), (1, .int (nI N)), (2, .int (nI i))] → W p l e (ctR (0, 0)) s m #[.ref (R 7), .int (nI N)] below meth c H locs 0 0 Q (F0 m 12 ls []) := by
    intro kn
    induction kn with
    | zero => intro i A_12 B_12 ls H locs hmu; exact absurd hmu (Nat.not_lt_zero _)
    | succ kn ih12 =>
      intro i A_12 B_12 ls H locs mu12 inv12 hP hD hS hl
      obtain ⟨hi, a1, a2, b1, b2⟩ := inv12
      refine lv_iload_n hx hb dX3_part_12 rfl (lv_at hl 2 rfl) ?_
      refine lv_iload_n hx hb dX3_part_13 rfl (lv_at hl 1 rfl) ?_
      refine lv_icmp_ge (tgt := 37) hx hb dX3_part_14 (by decide) (fun c14 => ?_) (fun c14 => ?_)
      · -- 14 taken
        rw [nI_leI (by omega) (by omega)] at c14
        have hge : i = N := by omega
        rw [hge] at a2 b2
        refine hret 37 ls _ _ (I7, A_12, B_12, C, T) dX3_part_37 ?_ hP hD hS
        try dsimp only
        exact ⟨⟨fun v hv => ⟨a2 v hv, hv⟩, fun v hv => b2 v hv, by rw [eI7, up_ne (by decide), eI2, up_self], by rw [eI7, up_self]; congr 1; exact (ct0_true N (fun i _ => by show (i == i) = true; simp)).symm⟩, fG.of (fun k h4 h5 => by rw [eI7, up_ne h5, eI2, up_ne h4]) a1 b1 rfl rfl⟩
      · -- 14 not
        rw [nI_leI (by omega) (by omega)] at c14
        have icl : (nI i).toNatClampNeg = i := nI_clamp (by omega)
        have iin : vp_in (nI i) 16 := vp_in_nI (by omega) (by omega)
        refine lv_aload_n hx hb dX3_part_17 rfl (lv_at hl 0 rfl) ?_
        refine va_get (D := (dC, dI)) (ci := 3) (v := .ref (R 8)) (C := RX3) (T := TX3) (N := 4) hx hb hts hinX3 hown hK hP 7 rfl rfl 2 (by decide) hf9 (fun _ h9 => h9) rfl dX3_part_18 ?_
        refine lv_iload_n hx hb dX3_part_21 rfl (lv_at hl 2 rfl) ?_
        refine lv_iload_n hx hb dX3_part_22 rfl (lv_at hl 2 rfl) ?_
        have h23 : vp_in (nI i) 16 := iin
        refine va_iast hx hb hK hP hD hS 8 0 rfl rfl h23 dX3_part_23 (fun H locs hP hD hS => ?_)
        obtain ⟨A23, eA23⟩ : ∃ zz : Nat → Nat → Int32, zz = va_up A_12 8 (upd (A_12 8) (nI i).toNatClampNeg (nI i)) := ⟨_, rfl⟩
        have hP : va_P (dC, dI) vwCl (HW cI cJ cII cJJ R (I7, A23, B_12, C, T)) H := by rw [eA23]; exact hP
        have hD : va_D Aa (HW cI cJ cII cJJ R (I7, A23, B_12, C, T)) := by rw [eA23]; exact hD
        refine lv_aload_n hx hb dX3_part_24 rfl (lv_at hl 0 rfl) ?_
        refine va_get (D := (dC, dI)) (ci := 3) (v := .ref (R 9)) (C := RX3) (T := TX3) (N := 4) hx hb hts hinX3 hown hK hP 7 rfl rfl 3 (by decide) hf15 (fun _ h9 => h9) rfl dX3_part_25 ?_
        refine lv_iload_n hx hb dX3_part_28 rfl (lv_at hl 2 rfl) ?_
        refine lv_lconst (v := 0) hx hb dX3_part_29 (by decide) ?_
        have h30 : vp_in (nI i) 16 := iin
        refine va_last hx hb hK hP hD hS 9 1 rfl rfl h30 dX3_part_30 (fun H locs hP hD hS => ?_)
        obtain ⟨B30, eB30⟩ : ∃ zz : Nat → Nat → Int64, zz = va_up B_12 9 (vp_updL (B_12 9) (nI i).toNatClampNeg 0) := ⟨_, rfl⟩
        have hP : va_P (dC, dI) vwCl (HW cI cJ cII cJJ R (I7, A23, B30, C, T)) H := by rw [eB30]; exact hP
        have hD : va_D Aa (HW cI cJ cII cJJ R (I7, A23, B30, C, T)) := by rw [eB30]; exact hD
        obtain ⟨x31, ex31⟩ : ∃ zz : Int32, zz = nI i + (1) := ⟨_, rfl⟩
        refine lv_iinc (v := x31) (lv' := [(2, .int x31), (0, .ref (R 7)), (1, .int (nI N))]) hx hb dX3_part_31 hl (k := 2) rfl (by rw [ex31]; rfl) (by decide) rfl (fun ls hl => ?_)
        have ex31 : x31 = nI (i + 1) := by rw [ex31]; exact nI_1 i
        subst ex31
        refine lv_goto (tgt := 12) hx hb dX3_part_34 (by decide) ?_
        exact ih12 (i + 1) A23 B30 ls _ _ (by omega) ⟨by omega, fun k hk => by rw [eA23, up_ne hk]; exact a1 k hk, fun v hv => by
            rw [eA23, up_self, icl]
            by_cases hvi : v = i
            · rw [hvi, pk_us]
            · rw [pk_un hvi]; exact a2 v (by omega), fun k hk => by rw [eB30, up_ne hk]; exact b1 k hk, fun v hv => by
            rw [eB30, up_self, icl]
            by_cases hvi : v = i
            · rw [hvi, pk_uLs]
            · rw [pk_uLn hvi]; exact b2 v (by omega)⟩ hP hD hS (lv_sub hl [1, 2, 0] rfl)
  exact K12 _ 0 A B ls _ _ (Nat.lt_succ_self _) ⟨Nat.zero_le _, fun _ _ => rfl, fun v h => absurd h (by omega), fun _ _ => rfl, fun v h => absurd h (by omega)⟩ hP hD hS (lv_sub hl [1, 2, 0] rfl)
set_option maxHeartbeats 4000000 in
set_option maxRecDepth 100000 in
theorem k_X3_together (l : Launch) (dC : Nat → ClassId) (dI : Nat → Nat → Nat) (cI cJ cZ cII cJJ : ClassId) (R : Nat → Nat) (I : Nat → Int32) (A : Nat → Nat → Int32) (B : Nat → Nat → Int64) (C : Nat → Nat → Int32) (T : Nat → Nat → Int64) (N : Nat) (q : JS) (a b : Nat) (hN : N ≤ 16) (hq : rG N q.1 (A 8)) (ha : a < N) (hb2 : b < N) : ctI l (dC, dI) (tyL cI cJ cZ cII cJJ) (HW cI cJ cII cJJ R) yX3_together wsX3_together (0, 0) [.ref (R 7), .int (nI a), .int (nI b)] (I, A, B, C, T) (fun r u => r = (if q.1 a = q.1 b then 1 else 0) ∧ u = (I, A, B, C, T)) := by
  refine ctI_intro (cc := cX3_together) (maxL := 3) (by decide) rfl (Nat.le_of_ble_eq_true rfl) ?_
  intro p e s m below meth c ls Aa Q F hK hN hP hD hS hA hl hret
  have hx := F.1
  have hb := F.2.1
  have hown : s.vm.findClass RX3 = some m.cls := F.2.2.2.1
  have hts := F.2.2.2.2
  have hinX3 : ∀ w ∈ wsX30, w ∈ wsX3_together := by decide +kernel
  have hf9 := hts (.fieldLink RX3 9 "CycleHouse$Groups" "name" "[I") (by decide +kernel)
  have hl : lv_has ls 3 [(0, .ref (R 7)), (1, .int (nI a)), (2, .int (nI b))] := hl
  have l1 := (hq a ha).2
  have l2 := (hq b hb2).2
  refine lv_aload_n hx hb dX3_together_0 rfl (lv_at hl 0 rfl) ?_
  refine va_get (D := (dC, dI)) (ci := 3) (v := .ref (R 8)) (C := RX3) (T := TX3) (N := 4) hx hb hts hinX3 hown hK hP 7 rfl rfl 2 (by decide) hf9 (fun _ h9 => h9) rfl dX3_together_1 ?_
  refine lv_iload_n hx hb dX3_together_4 rfl (lv_at hl 1 rfl) ?_
  have h5 : vp_in (nI a) 16 := vp_in_nI (by omega) (by omega)
  refine va_iald hx hb hK hP 8 0 rfl rfl h5 dX3_together_5 ?_
  refine lv_topi (fun x5 ex5 => ?_)
  have ex5 : x5 = A 8 (nI a).toNatClampNeg := ex5
  have ex5 : x5 = nI (q.1 a) := by rw [ex5, nI_clamp (by omega)]; exact (hq a ha).1
  subst ex5
  refine lv_aload_n hx hb dX3_together_6 rfl (lv_at hl 0 rfl) ?_
  refine va_get (D := (dC, dI)) (ci := 3) (v := .ref (R 8)) (C := RX3) (T := TX3) (N := 4) hx hb hts hinX3 hown hK hP 7 rfl rfl 2 (by decide) hf9 (fun _ h9 => h9) rfl dX3_together_7 ?_
  refine lv_iload_n hx hb dX3_together_10 rfl (lv_at hl 2 rfl) ?_
  have h11 : vp_in (nI b) 16 := vp_in_nI (by omega) (by omega)
  refine va_iald hx hb hK hP 8 0 rfl rfl h11 dX3_together_11 ?_
  refine lv_topi (fun x11 ex11 => ?_)
  have ex11 : x11 = A 8 (nI b).toNatClampNeg := ex11
  have ex11 : x11 = nI (q.1 b) := by rw [ex11, nI_clamp (by omega)]; exact (hq b hb2).1
  subst ex11
  refine lv_icmp_ne (tgt := 19) hx hb dX3_together_12 (by decide) (fun c12 => ?_) (fun c12 => ?_)
  · -- 12 taken
    rw [nI_eq (by omega) (by omega)] at c12
    refine lv_iconst (v := 0) hx hb dX3_together_19 (by decide) ?_
    refine hret 20 ls _ _ 0 (I, A, B, C, T) dX3_together_20 rfl ?_ hP hD hS
    try dsimp only
    exact ⟨by rw [if_neg c12], rfl⟩
  · -- 12 not
    rw [nI_eq (by omega) (by omega)] at c12
    refine lv_iconst (v := 1) hx hb dX3_together_15 (by decide) ?_
    refine lv_goto (tgt := 20) hx hb dX3_together_16 (by decide) ?_
    refine hret 20 ls _ _ 1 (I, A, B, C, T) dX3_together_20 rfl ?_ hP hD hS
    try dsimp only
    exact ⟨by rw [if_pos c12], rfl⟩
set_option maxHeartbeats 4000000 in
set_option maxRecDepth 100000 in
theorem k_X3_merge (l : Launch) (dC : Nat → ClassId) (dI : Nat → Nat → Nat) (cI cJ cZ cII cJJ : ClassId) (R : Nat → Nat) (I : Nat → Int32) (A : Nat → Nat → Int32) (B : Nat → Nat → Int64) (C : Nat → Nat → Int32) (T : Nat → Nat → Int64) (N : Nat) (g w : Nat → Nat) (ka gb ch cnt : Nat) (hN : N ≤ 16) (hg : rG N g (A 8)) (hw : rW N w (B 9)) (hka : ka < N) (hgb : gb < N) (h4 : I 4 = nI N) (h5 : I 5 = nI (cnt + 1)) : ctV l (dC, dI) (tyL cI cJ cZ cII cJJ) (HW cI cJ cII cJJ R) yX3_merge wsX3_merge (0, 0) [.ref (R 7), .int (nI ka), .int (nI gb), .long (lN ch)] (I, A, B, C, T) (fun u => (∀ v, v < N → u.2.1 8 v = nI (if g v = gb then ka else g v)) ∧ (∀ v, v < N → u.2.2.1 9 v = lN (if g v = gb then w v ^^^ ch else w v)) ∧ u.1 4 = nI N ∧ u.1 5 = nI cnt ∧ fG I A B C T u) := by
  refine ctV_intro (cc := cX3_merge) (maxL := 6) (by decide) rfl (Nat.le_of_ble_eq_true rfl) ?_
  intro p e s m below meth c ls Aa Q F hK hN hP hD hS hA hl hret
  have hx := F.1
  have hb := F.2.1
  have hown : s.vm.findClass RX3 = some m.cls := F.2.2.2.1
  have hts := F.2.2.2.2
  have hinX3 : ∀ w ∈ wsX30, w ∈ wsX3_merge := by decide +kernel
  have hf19 := hts (.fieldLink RX3 19 "CycleHouse$Groups" "vertices" "I") (by decide +kernel)
  have hf9 := hts (.fieldLink RX3 9 "CycleHouse$Groups" "name" "[I") (by decide +kernel)
  have hf15 := hts (.fieldLink RX3 15 "CycleHouse$Groups" "way" "[J") (by decide +kernel)
  have hf23 := hts (.fieldLink RX3 23 "CycleHouse$Groups" "count" "I") (by decide +kernel)
  have hl : lv_has ls 6 [(0, .ref (R 7)), (1, .int (nI ka)), (2, .int (nI gb)), (3, .long (lN ch))] := hl
  refine lv_iconst (v := 0) hx hb dX3_merge_0 (by decide) ?_
  refine lv_istore (lv' := [(5, .int 0), (0, .ref (R 7)), (1, .int (nI ka)), (2, .int (nI gb)), (3, .long (lN ch))]) hx hb dX3_merge_1 hl (by decide) rfl (fun ls hl => ?_)
  have K3 : ∀ (kn : Nat) (i : Nat) (A_3 : Nat → Nat → Int32) (B_3 : Nat → Nat → Int64) (ls : Array Slot) (H : Heap) (locs : List Loc), N - i < kn → (i ≤ N ∧ (∀ k, k ≠ 8 → A_3 k = A k) ∧ (∀ v, v < N → A_3 8 v = nI (if v < i ∧ g v = gb then ka else g v)) ∧ (∀ k, k ≠ 9 → B_3 k = B k) ∧ ∀ v, v < N → B_3 9 v = lN (if v < i ∧ g v = gb then w v ^^^ ch else w v)) → va_P (dC, dI) vwCl (HW cI cJ cII cJJ R (I, A_3, B_3, C, T)) H → va_D Aa (HW cI cJ cII cJJ R (I, A_3, B_3, C, T)) → va_S Aa s.heap H locs → lv_has ls 6 [(0, .ref (R 7)), (1, .int (nI ka)), (2, .int (nI gb)), (3, .long (lN ch)), (5, .int (nI i))] → W p l e (ctR (0, 0)) s m #[.ref (R 7), .int (nI ka), .int (nI gb), .long (lN ch)] below meth c H locs 0 0 Q (F0 m 3 ls []) := by
    intro kn
    induction kn with
    | zero => intro i A_3 B_3 ls H locs hmu; exact absurd hmu (Nat.not_lt_zero _)
    | succ kn ih3 =>
      intro i A_3 B_3 ls H locs mu3 inv3 hP hD hS hl
      obtain ⟨hi, a1, a2, b1, b2⟩ := inv3
      refine lv_iload hx hb dX3_merge_3 (lv_at hl 4 rfl) ?_
      refine lv_aload_n hx hb dX3_merge_5 rfl (lv_at hl 0 rfl) ?_
      refine va_get (D := (dC, dI)) (ci := 3) (v := .int (I 4)) (C := RX3) (T := TX3) (N := 4) hx hb hts hinX3 hown hK hP 7 rfl rfl 0 (by decide) hf19 (fun _ h9 => h9) rfl dX3_merge_6 ?_
      refine lv_icmp_ge (tgt := 48) hx hb dX3_merge_9 (by decide) (fun c9 => ?_) (fun c9 => ?_)
      · -- 9 taken
        rw [h4, nI_leI (by omega) (by omega)] at c9
        have hge : i = N := by omega
        rw [hge] at a2 b2
        refine lv_aload_n hx hb dX3_merge_48 rfl (lv_at hl 0 rfl) ?_
        refine lv_dup hx hb dX3_merge_49 rfl ?_
        refine va_get (D := (dC, dI)) (ci := 3) (v := .int (I 5)) (C := RX3) (T := TX3) (N := 4) hx hb hts hinX3 hown hK hP 7 rfl rfl 1 (by decide) hf23 (fun _ h9 => h9) rfl dX3_merge_50 ?_
        refine lv_iconst (v := 1) hx hb dX3_merge_53 (by decide) ?_
        refine lv_isub hx hb dX3_merge_54 ?_
        refine lv_topi (fun x54 ex54 => ?_)
        refine va_put (D := (dC, dI)) (ci := 3) (v := .int x54) (ty := .int) (C := RX3) (T := TX3) (N := 4) hx hb hts hinX3 tyX3 tyX3_ok nmX3 hown hK hP hD hS 7 rfl rfl 1 (by decide) hf23 (fun _ h9 => h9) rfl (by decide +kernel) rfl rfl (Nat.le_of_ble_eq_true rfl) dX3_merge_55 (fun H locs hP hD hS => ?_)
        obtain ⟨I55, eI55⟩ : ∃ zz : Nat → Int32, zz = va_up I 5 x54 := ⟨_, rfl⟩
        have hP : va_P (dC, dI) vwCl (HW cI cJ cII cJJ R (I55, A_3, B_3, C, T)) H := by rw [eI55]; exact hP
        have hD : va_D Aa (HW cI cJ cII cJJ R (I55, A_3, B_3, C, T)) := by rw [eI55]; exact hD
        refine hret 58 ls _ _ (I55, A_3, B_3, C, T) dX3_merge_58 ?_ hP hD hS
        try dsimp only
        exact ⟨fun v hv => by rw [a2 v hv]; simp only [hv, true_and], fun v hv => by rw [b2 v hv]; simp only [hv, true_and], by rw [eI55, up_ne (by decide)]; exact h4, by rw [eI55, up_self, ex54, h5]; exact nI_pred _, fG.of (fun k _ k5 => by rw [eI55, up_ne k5]) a1 b1 rfl rfl⟩
      · -- 9 not
        rw [h4, nI_leI (by omega) (by omega)] at c9
        have icl : (nI i).toNatClampNeg = i := nI_clamp (by omega)
        have iin : vp_in (nI i) 16 := vp_in_nI (by omega) (by omega)
        have gi := (hg i (by omega)).2
        refine lv_aload_n hx hb dX3_merge_12 rfl (lv_at hl 0 rfl) ?_
        refine va_get (D := (dC, dI)) (ci := 3) (v := .ref (R 8)) (C := RX3) (T := TX3) (N := 4) hx hb hts hinX3 hown hK hP 7 rfl rfl 2 (by decide) hf9 (fun _ h9 => h9) rfl dX3_merge_13 ?_
        refine lv_iload hx hb dX3_merge_16 (lv_at hl 4 rfl) ?_
        have h18 : vp_in (nI i) 16 := iin
        refine va_iald hx hb hK hP 8 0 rfl rfl h18 dX3_merge_18 ?_
        refine lv_topi (fun x18 ex18 => ?_)
        have ex18 : x18 = A_3 8 (nI i).toNatClampNeg := ex18
        have ex18 : x18 = nI (g i) := by rw [ex18, icl, a2 i (by omega), if_neg (fun h => absurd h.1 (Nat.lt_irrefl _))]
        subst ex18
        refine lv_iload_n hx hb dX3_merge_19 rfl (lv_at hl 2 rfl) ?_
        refine lv_icmp_ne (tgt := 42) hx hb dX3_merge_20 (by decide) (fun c20 => ?_) (fun c20 => ?_)
        · -- 20 taken
          rw [nI_eq (by omega) (by omega)] at c20
          obtain ⟨x42, ex42⟩ : ∃ zz : Int32, zz = nI i + (1) := ⟨_, rfl⟩
          refine lv_iinc (v := x42) (lv' := [(5, .int x42), (0, .ref (R 7)), (1, .int (nI ka)), (2, .int (nI gb)), (3, .long (lN ch))]) hx hb dX3_merge_42 hl (k := 4) rfl (by rw [ex42]; rfl) (by decide) rfl (fun ls hl => ?_)
          have ex42 : x42 = nI (i + 1) := by rw [ex42]; exact nI_1 i
          subst ex42
          refine lv_goto (tgt := 3) hx hb dX3_merge_45 (by decide) ?_
          exact ih3 (i + 1) A_3 B_3 ls _ _ (by omega) ⟨by omega, a1, fun v hv => by
                rw [a2 v hv]; by_cases hvi : v = i
                · subst hvi; rw [if_neg (fun h => c20 h.2), if_neg (fun h => c20 h.2)]
                · simp only [show (v < i + 1) = (v < i) from propext ⟨fun h => by omega, fun h => by omega⟩], b1, fun v hv => by
                rw [b2 v hv]; by_cases hvi : v = i
                · subst hvi; rw [if_neg (fun h => c20 h.2), if_neg (fun h => c20 h.2)]
                · simp only [show (v < i + 1) = (v < i) from propext ⟨fun h => by omega, fun h => by omega⟩]⟩ hP hD hS (lv_sub hl [1, 2, 3, 4, 0] rfl)
        · -- 20 not
          rw [nI_eq (by omega) (by omega)] at c20
          refine lv_aload_n hx hb dX3_merge_23 rfl (lv_at hl 0 rfl) ?_
          refine va_get (D := (dC, dI)) (ci := 3) (v := .ref (R 8)) (C := RX3) (T := TX3) (N := 4) hx hb hts hinX3 hown hK hP 7 rfl rfl 2 (by decide) hf9 (fun _ h9 => h9) rfl dX3_merge_24 ?_
          refine lv_iload hx hb dX3_merge_27 (lv_at hl 4 rfl) ?_
          refine lv_iload_n hx hb dX3_merge_29 rfl (lv_at hl 1 rfl) ?_
          have h30 : vp_in (nI i) 16 := iin
          refine va_iast hx hb hK hP hD hS 8 0 rfl rfl h30 dX3_merge_30 (fun H locs hP hD hS => ?_)
          obtain ⟨A30, eA30⟩ : ∃ zz : Nat → Nat → Int32, zz = va_up A_3 8 (upd (A_3 8) (nI i).toNatClampNeg (nI ka)) := ⟨_, rfl⟩
          have hP : va_P (dC, dI) vwCl (HW cI cJ cII cJJ R (I, A30, B_3, C, T)) H := by rw [eA30]; exact hP
          have hD : va_D Aa (HW cI cJ cII cJJ R (I, A30, B_3, C, T)) := by rw [eA30]; exact hD
          refine lv_aload_n hx hb dX3_merge_31 rfl (lv_at hl 0 rfl) ?_
          refine va_get (D := (dC, dI)) (ci := 3) (v := .ref (R 9)) (C := RX3) (T := TX3) (N := 4) hx hb hts hinX3 hown hK hP 7 rfl rfl 3 (by decide) hf15 (fun _ h9 => h9) rfl dX3_merge_32 ?_
          refine lv_iload hx hb dX3_merge_35 (lv_at hl 4 rfl) ?_
          refine lv_dup2_11 hx hb dX3_merge_37 rfl rfl ?_
          have h38 : vp_in (nI i) 16 := iin
          refine va_lald hx hb hK hP 9 1 rfl rfl h38 dX3_merge_38 ?_
          refine lv_topl (fun x38 ex38 => ?_)
          have ex38 : x38 = B_3 9 (nI i).toNatClampNeg := ex38
          have ex38 : x38 = lN (w i) := by rw [ex38, icl, b2 i (by omega), if_neg (fun h => absurd h.1 (Nat.lt_irrefl _))]
          subst ex38
          refine lv_lload_n hx hb dX3_merge_39 rfl (lv_at hl 3 rfl) ?_
          refine lv_lxor hx hb dX3_merge_40 ?_
          refine lv_topl (fun x40 ex40 => ?_)
          have ex40 : x40 = lN (w i ^^^ ch) := by rw [ex40, lN_xor]
          subst ex40
          have h41 : vp_in (nI i) 16 := iin
          refine va_last hx hb hK hP hD hS 9 1 rfl rfl h41 dX3_merge_41 (fun H locs hP hD hS => ?_)
          obtain ⟨B41, eB41⟩ : ∃ zz : Nat → Nat → Int64, zz = va_up B_3 9 (vp_updL (B_3 9) (nI i).toNatClampNeg (lN (w i ^^^ ch))) := ⟨_, rfl⟩
          have hP : va_P (dC, dI) vwCl (HW cI cJ cII cJJ R (I, A30, B41, C, T)) H := by rw [eB41]; exact hP
          have hD : va_D Aa (HW cI cJ cII cJJ R (I, A30, B41, C, T)) := by rw [eB41]; exact hD
          obtain ⟨x42, ex42⟩ : ∃ zz : Int32, zz = nI i + (1) := ⟨_, rfl⟩
          refine lv_iinc (v := x42) (lv' := [(5, .int x42), (0, .ref (R 7)), (1, .int (nI ka)), (2, .int (nI gb)), (3, .long (lN ch))]) hx hb dX3_merge_42 hl (k := 4) rfl (by rw [ex42]; rfl) (by decide) rfl (fun ls hl => ?_)
          have ex42 : x42 = nI (i + 1) := by rw [ex42]; exact nI_1 i
          subst ex42
          refine lv_goto (tgt := 3) hx hb dX3_merge_45 (by decide) ?_
          exact ih3 (i + 1) A30 B41 ls _ _ (by omega) ⟨by omega, fun k hk => by rw [eA30, up_ne hk]; exact a1 k hk, fun v hv => by
                rw [eA30, up_self, icl]
                by_cases hvi : v = i
                · subst hvi; rw [pk_us, if_pos ⟨by omega, c20⟩]
                · rw [pk_un hvi, a2 v hv]; simp only [show (v < i + 1) = (v < i) from propext ⟨fun h => by omega, fun h => by omega⟩], fun k hk => by rw [eB41, up_ne hk]; exact b1 k hk, fun v hv => by
                rw [eB41, up_self, icl]
                by_cases hvi : v = i
                · subst hvi; rw [pk_uLs, if_pos ⟨by omega, c20⟩]
                · rw [pk_uLn hvi, b2 v hv]; simp only [show (v < i + 1) = (v < i) from propext ⟨fun h => by omega, fun h => by omega⟩]⟩ hP hD hS (lv_sub hl [1, 2, 3, 4, 0] rfl)
  exact K3 _ 0 A B ls _ _ (Nat.lt_succ_self _) ⟨Nat.zero_le _, fun _ _ => rfl, fun v hv => by rw [if_neg (fun h => absurd h.1 (Nat.not_lt_zero _))]; exact (hg v hv).1, fun _ _ => rfl, fun v hv => by rw [if_neg (fun h => absurd h.1 (Nat.not_lt_zero _))]; exact hw v hv⟩ hP hD hS (lv_sub hl [1, 2, 3, 4, 0] rfl)
end

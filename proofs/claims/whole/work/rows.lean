section
-- ===== PART A: goes FIRST, ahead of the names: the tables' words, and 'selects' of the private methods out of them =====
/-- a private method of a class that the tables say can be made, by its rows of tables_1 -/
def lw_okq (q : MethodName × Nat) : Prop := (q.1.cls ≠ "java/lang/invoke/MethodHandle" ∧ q.1.cls ≠ "java/lang/invoke/VarHandle") ∧ Cond.instantiable q.1.cls q.2 ∈ tables_1 ∧ Cond.privateMethod q.1 ∈ tables_1 ∧ Cond.instanceMethod q.1 ∈ tables_1
theorem lw_p0 : lw_okq (⟨"CycleHouse", "fillRings", "()I"⟩, 8) := ⟨⟨by decide +kernel, by decide +kernel⟩, List.mem_of_getElem? (i := 20) (by decide +kernel), List.mem_of_getElem? (i := 224) (by decide +kernel), List.mem_of_getElem? (i := 225) (by decide +kernel)⟩
theorem lw_p1 : lw_okq (⟨"CycleHouse$Groups", "merge", "(IIJ)V"⟩, 4) := ⟨⟨by decide +kernel, by decide +kernel⟩, List.mem_of_getElem? (i := 94) (by decide +kernel), List.mem_of_getElem? (i := 240) (by decide +kernel), List.mem_of_getElem? (i := 241) (by decide +kernel)⟩
theorem lw_p2 : lw_okq (⟨"java/lang/Throwable", "fillInStackTrace", "(I)Ljava/lang/Throwable;"⟩, 6) := ⟨⟨by decide +kernel, by decide +kernel⟩, List.mem_of_getElem? (i := 322) (by decide +kernel), List.mem_of_getElem? (i := 320) (by decide +kernel), List.mem_of_getElem? (i := 321) (by decide +kernel)⟩
theorem lw_p3 : lw_okq (⟨"CycleHouse", "joinWhole", "()I"⟩, 8) := ⟨⟨by decide +kernel, by decide +kernel⟩, List.mem_of_getElem? (i := 20) (by decide +kernel), List.mem_of_getElem? (i := 387) (by decide +kernel), List.mem_of_getElem? (i := 388) (by decide +kernel)⟩
theorem lw_p4 : lw_okq (⟨"CycleHouse", "joinSet", "(J)I"⟩, 8) := ⟨⟨by decide +kernel, by decide +kernel⟩, List.mem_of_getElem? (i := 20) (by decide +kernel), List.mem_of_getElem? (i := 391) (by decide +kernel), List.mem_of_getElem? (i := 392) (by decide +kernel)⟩
theorem lw_p5 : lw_okq (⟨"CycleHouse", "checkEdges", "(J)V"⟩, 8) := ⟨⟨by decide +kernel, by decide +kernel⟩, List.mem_of_getElem? (i := 20) (by decide +kernel), List.mem_of_getElem? (i := 421) (by decide +kernel), List.mem_of_getElem? (i := 422) (by decide +kernel)⟩
theorem lw_p6 : lw_okq (⟨"CycleHouse$ForestCount", "determinant", "(I)J"⟩, 1) := ⟨⟨by decide +kernel, by decide +kernel⟩, List.mem_of_getElem? (i := 157) (by decide +kernel), List.mem_of_getElem? (i := 431) (by decide +kernel), List.mem_of_getElem? (i := 432) (by decide +kernel)⟩
theorem lw_p7 : lw_okq (⟨"CycleHouse$ForestCount", "eliminate", "(IIJ)V"⟩, 1) := ⟨⟨by decide +kernel, by decide +kernel⟩, List.mem_of_getElem? (i := 157) (by decide +kernel), List.mem_of_getElem? (i := 435) (by decide +kernel), List.mem_of_getElem? (i := 436) (by decide +kernel)⟩
theorem lw_p8 : lw_okq (⟨"CycleHouse", "weightOfLightestJoins", "()J"⟩, 8) := ⟨⟨by decide +kernel, by decide +kernel⟩, List.mem_of_getElem? (i := 20) (by decide +kernel), List.mem_of_getElem? (i := 452) (by decide +kernel), List.mem_of_getElem? (i := 453) (by decide +kernel)⟩
theorem lw_p9 : lw_okq (⟨"CycleHouse", "lightestJoin", "()I"⟩, 8) := ⟨⟨by decide +kernel, by decide +kernel⟩, List.mem_of_getElem? (i := 20) (by decide +kernel), List.mem_of_getElem? (i := 456) (by decide +kernel), List.mem_of_getElem? (i := 457) (by decide +kernel)⟩
theorem lw_p10 : lw_okq (⟨"CycleHouse$Ways", "shortenAll", "(LCycleHouse$Graph;I)Z"⟩, 2) := ⟨⟨by decide +kernel, by decide +kernel⟩, List.mem_of_getElem? (i := 115) (by decide +kernel), List.mem_of_getElem? (i := 500) (by decide +kernel), List.mem_of_getElem? (i := 501) (by decide +kernel)⟩
theorem lw_p11 : lw_okq (⟨"CycleHouse$Ways", "shorten", "(IIII)Z"⟩, 2) := ⟨⟨by decide +kernel, by decide +kernel⟩, List.mem_of_getElem? (i := 115) (by decide +kernel), List.mem_of_getElem? (i := 504) (by decide +kernel), List.mem_of_getElem? (i := 505) (by decide +kernel)⟩
theorem lw_p12 : lw_okq (⟨"CycleHouse$LightBasis", "gatherAll", "(LCycleHouse$Graph;LCycleHouse$Ways;)V"⟩, 6) := ⟨⟨by decide +kernel, by decide +kernel⟩, List.mem_of_getElem? (i := 131) (by decide +kernel), List.mem_of_getElem? (i := 524) (by decide +kernel), List.mem_of_getElem? (i := 525) (by decide +kernel)⟩
theorem lw_p13 : lw_okq (⟨"CycleHouse$LightBasis", "gather", "(LCycleHouse$Graph;LCycleHouse$Ways;I)V"⟩, 6) := ⟨⟨by decide +kernel, by decide +kernel⟩, List.mem_of_getElem? (i := 131) (by decide +kernel), List.mem_of_getElem? (i := 529) (by decide +kernel), List.mem_of_getElem? (i := 530) (by decide +kernel)⟩
theorem lw_p14 : lw_okq (⟨"CycleHouse$LightBasis", "lightestLeft", "()I"⟩, 6) := ⟨⟨by decide +kernel, by decide +kernel⟩, List.mem_of_getElem? (i := 131) (by decide +kernel), List.mem_of_getElem? (i := 534) (by decide +kernel), List.mem_of_getElem? (i := 535) (by decide +kernel)⟩
theorem lw_p15 : lw_okq (⟨"CycleHouse$LightBasis", "strike", "(J)V"⟩, 6) := ⟨⟨by decide +kernel, by decide +kernel⟩, List.mem_of_getElem? (i := 131) (by decide +kernel), List.mem_of_getElem? (i := 538) (by decide +kernel), List.mem_of_getElem? (i := 539) (by decide +kernel)⟩
def lw_privs_1 : List (MethodName × Nat) := [(⟨"CycleHouse", "fillRings", "()I"⟩, 8), (⟨"CycleHouse$Groups", "merge", "(IIJ)V"⟩, 4), (⟨"java/lang/Throwable", "fillInStackTrace", "(I)Ljava/lang/Throwable;"⟩, 6), (⟨"CycleHouse", "joinWhole", "()I"⟩, 8), (⟨"CycleHouse", "joinSet", "(J)I"⟩, 8), (⟨"CycleHouse", "checkEdges", "(J)V"⟩, 8), (⟨"CycleHouse$ForestCount", "determinant", "(I)J"⟩, 1), (⟨"CycleHouse$ForestCount", "eliminate", "(IIJ)V"⟩, 1), (⟨"CycleHouse", "weightOfLightestJoins", "()J"⟩, 8), (⟨"CycleHouse", "lightestJoin", "()I"⟩, 8), (⟨"CycleHouse$Ways", "shortenAll", "(LCycleHouse$Graph;I)Z"⟩, 2), (⟨"CycleHouse$Ways", "shorten", "(IIII)Z"⟩, 2), (⟨"CycleHouse$LightBasis", "gatherAll", "(LCycleHouse$Graph;LCycleHouse$Ways;)V"⟩, 6), (⟨"CycleHouse$LightBasis", "gather", "(LCycleHouse$Graph;LCycleHouse$Ways;I)V"⟩, 6), (⟨"CycleHouse$LightBasis", "lightestLeft", "()I"⟩, 6), (⟨"CycleHouse$LightBasis", "strike", "(J)V"⟩, 6)]
theorem lw_r1 : ∀ q ∈ lw_privs_1, lw_okq q := List.forall_mem_cons.mpr ⟨lw_p0, List.forall_mem_cons.mpr ⟨lw_p1, List.forall_mem_cons.mpr ⟨lw_p2, List.forall_mem_cons.mpr ⟨lw_p3, List.forall_mem_cons.mpr ⟨lw_p4, List.forall_mem_cons.mpr ⟨lw_p5, List.forall_mem_cons.mpr ⟨lw_p6, List.forall_mem_cons.mpr ⟨lw_p7, List.forall_mem_cons.mpr ⟨lw_p8, List.forall_mem_cons.mpr ⟨lw_p9, List.forall_mem_cons.mpr ⟨lw_p10, List.forall_mem_cons.mpr ⟨lw_p11, List.forall_mem_cons.mpr ⟨lw_p12, List.forall_mem_cons.mpr ⟨lw_p13, List.forall_mem_cons.mpr ⟨lw_p14, List.forall_mem_cons.mpr ⟨lw_p15, fun _ h => absurd h List.not_mem_nil⟩⟩⟩⟩⟩⟩⟩⟩⟩⟩⟩⟩⟩⟩⟩⟩
theorem lw_p16 : lw_okq (⟨"CycleHouse", "checkListed", "(J)V"⟩, 8) := ⟨⟨by decide +kernel, by decide +kernel⟩, List.mem_of_getElem? (i := 20) (by decide +kernel), List.mem_of_getElem? (i := 563) (by decide +kernel), List.mem_of_getElem? (i := 564) (by decide +kernel)⟩
theorem lw_p17 : lw_okq (⟨"CycleHouse", "countGroups", "()I"⟩, 8) := ⟨⟨by decide +kernel, by decide +kernel⟩, List.mem_of_getElem? (i := 20) (by decide +kernel), List.mem_of_getElem? (i := 594) (by decide +kernel), List.mem_of_getElem? (i := 595) (by decide +kernel)⟩
theorem lw_p18 : lw_okq (⟨"CycleHouse", "countEdgesInNoCycle", "()I"⟩, 8) := ⟨⟨by decide +kernel, by decide +kernel⟩, List.mem_of_getElem? (i := 20) (by decide +kernel), List.mem_of_getElem? (i := 598) (by decide +kernel), List.mem_of_getElem? (i := 599) (by decide +kernel)⟩
theorem lw_p19 : lw_okq (⟨"CycleHouse", "hasOddCycle", "()Z"⟩, 8) := ⟨⟨by decide +kernel, by decide +kernel⟩, List.mem_of_getElem? (i := 20) (by decide +kernel), List.mem_of_getElem? (i := 603) (by decide +kernel), List.mem_of_getElem? (i := 604) (by decide +kernel)⟩
theorem lw_p20 : lw_okq (⟨"CycleHouse", "countCuttingVertices", "()I"⟩, 8) := ⟨⟨by decide +kernel, by decide +kernel⟩, List.mem_of_getElem? (i := 20) (by decide +kernel), List.mem_of_getElem? (i := 607) (by decide +kernel), List.mem_of_getElem? (i := 608) (by decide +kernel)⟩
theorem lw_p21 : lw_okq (⟨"CycleHouseModel", "throwing", "(ZZ)Z"⟩, 20) := ⟨⟨by decide +kernel, by decide +kernel⟩, List.mem_of_getElem? (i := 616) (by decide +kernel), List.mem_of_getElem? (i := 692) (by decide +kernel), List.mem_of_getElem? (i := 693) (by decide +kernel)⟩
theorem lw_p22 : lw_okq (⟨"CycleHouseModel", "isVertex", "(I)Z"⟩, 20) := ⟨⟨by decide +kernel, by decide +kernel⟩, List.mem_of_getElem? (i := 616) (by decide +kernel), List.mem_of_getElem? (i := 700) (by decide +kernel), List.mem_of_getElem? (i := 701) (by decide +kernel)⟩
theorem lw_p23 : lw_okq (⟨"CycleHouseModel", "dimension", "()I"⟩, 20) := ⟨⟨by decide +kernel, by decide +kernel⟩, List.mem_of_getElem? (i := 616) (by decide +kernel), List.mem_of_getElem? (i := 705) (by decide +kernel), List.mem_of_getElem? (i := 706) (by decide +kernel)⟩
theorem lw_p24 : lw_okq (⟨"CycleHouseModel", "groups", "()I"⟩, 20) := ⟨⟨by decide +kernel, by decide +kernel⟩, List.mem_of_getElem? (i := 616) (by decide +kernel), List.mem_of_getElem? (i := 709) (by decide +kernel), List.mem_of_getElem? (i := 710) (by decide +kernel)⟩
theorem lw_p25 : lw_okq (⟨"CycleHouseModel", "beginGroups", "()V"⟩, 20) := ⟨⟨by decide +kernel, by decide +kernel⟩, List.mem_of_getElem? (i := 616) (by decide +kernel), List.mem_of_getElem? (i := 713) (by decide +kernel), List.mem_of_getElem? (i := 714) (by decide +kernel)⟩
theorem lw_p26 : lw_okq (⟨"CycleHouseModel", "joins", "(I)Z"⟩, 20) := ⟨⟨by decide +kernel, by decide +kernel⟩, List.mem_of_getElem? (i := 616) (by decide +kernel), List.mem_of_getElem? (i := 717) (by decide +kernel), List.mem_of_getElem? (i := 718) (by decide +kernel)⟩
theorem lw_p27 : lw_okq (⟨"CycleHouseModel", "isSet", "(J)Z"⟩, 20) := ⟨⟨by decide +kernel, by decide +kernel⟩, List.mem_of_getElem? (i := 616) (by decide +kernel), List.mem_of_getElem? (i := 729) (by decide +kernel), List.mem_of_getElem? (i := 730) (by decide +kernel)⟩
theorem lw_p28 : lw_okq (⟨"CycleHouseModel", "beginsWith", "(J)Z"⟩, 20) := ⟨⟨by decide +kernel, by decide +kernel⟩, List.mem_of_getElem? (i := 616) (by decide +kernel), List.mem_of_getElem? (i := 733) (by decide +kernel), List.mem_of_getElem? (i := 734) (by decide +kernel)⟩
theorem lw_p29 : lw_okq (⟨"CycleHouseModel", "isFirst", "(I)Z"⟩, 20) := ⟨⟨by decide +kernel, by decide +kernel⟩, List.mem_of_getElem? (i := 616) (by decide +kernel), List.mem_of_getElem? (i := 737) (by decide +kernel), List.mem_of_getElem? (i := 738) (by decide +kernel)⟩
theorem lw_p30 : lw_okq (⟨"CycleHouseModel", "hang", "(II)Z"⟩, 20) := ⟨⟨by decide +kernel, by decide +kernel⟩, List.mem_of_getElem? (i := 616) (by decide +kernel), List.mem_of_getElem? (i := 741) (by decide +kernel), List.mem_of_getElem? (i := 742) (by decide +kernel)⟩
theorem lw_p31 : lw_okq (⟨"CycleHouseModel", "lay", "(II)V"⟩, 20) := ⟨⟨by decide +kernel, by decide +kernel⟩, List.mem_of_getElem? (i := 616) (by decide +kernel), List.mem_of_getElem? (i := 745) (by decide +kernel), List.mem_of_getElem? (i := 746) (by decide +kernel)⟩
def lw_privs_2 : List (MethodName × Nat) := [(⟨"CycleHouse", "checkListed", "(J)V"⟩, 8), (⟨"CycleHouse", "countGroups", "()I"⟩, 8), (⟨"CycleHouse", "countEdgesInNoCycle", "()I"⟩, 8), (⟨"CycleHouse", "hasOddCycle", "()Z"⟩, 8), (⟨"CycleHouse", "countCuttingVertices", "()I"⟩, 8), (⟨"CycleHouseModel", "throwing", "(ZZ)Z"⟩, 20), (⟨"CycleHouseModel", "isVertex", "(I)Z"⟩, 20), (⟨"CycleHouseModel", "dimension", "()I"⟩, 20), (⟨"CycleHouseModel", "groups", "()I"⟩, 20), (⟨"CycleHouseModel", "beginGroups", "()V"⟩, 20), (⟨"CycleHouseModel", "joins", "(I)Z"⟩, 20), (⟨"CycleHouseModel", "isSet", "(J)Z"⟩, 20), (⟨"CycleHouseModel", "beginsWith", "(J)Z"⟩, 20), (⟨"CycleHouseModel", "isFirst", "(I)Z"⟩, 20), (⟨"CycleHouseModel", "hang", "(II)Z"⟩, 20), (⟨"CycleHouseModel", "lay", "(II)V"⟩, 20)]
theorem lw_r2 : ∀ q ∈ lw_privs_2, lw_okq q := List.forall_mem_cons.mpr ⟨lw_p16, List.forall_mem_cons.mpr ⟨lw_p17, List.forall_mem_cons.mpr ⟨lw_p18, List.forall_mem_cons.mpr ⟨lw_p19, List.forall_mem_cons.mpr ⟨lw_p20, List.forall_mem_cons.mpr ⟨lw_p21, List.forall_mem_cons.mpr ⟨lw_p22, List.forall_mem_cons.mpr ⟨lw_p23, List.forall_mem_cons.mpr ⟨lw_p24, List.forall_mem_cons.mpr ⟨lw_p25, List.forall_mem_cons.mpr ⟨lw_p26, List.forall_mem_cons.mpr ⟨lw_p27, List.forall_mem_cons.mpr ⟨lw_p28, List.forall_mem_cons.mpr ⟨lw_p29, List.forall_mem_cons.mpr ⟨lw_p30, List.forall_mem_cons.mpr ⟨lw_p31, fun _ h => absurd h List.not_mem_nil⟩⟩⟩⟩⟩⟩⟩⟩⟩⟩⟩⟩⟩⟩⟩⟩
theorem lw_p32 : lw_okq (⟨"CycleHouseModel", "determinant", "(I)J"⟩, 20) := ⟨⟨by decide +kernel, by decide +kernel⟩, List.mem_of_getElem? (i := 616) (by decide +kernel), List.mem_of_getElem? (i := 749) (by decide +kernel), List.mem_of_getElem? (i := 750) (by decide +kernel)⟩
theorem lw_p33 : lw_okq (⟨"CycleHouseModel", "weightOf", "(J)J"⟩, 20) := ⟨⟨by decide +kernel, by decide +kernel⟩, List.mem_of_getElem? (i := 616) (by decide +kernel), List.mem_of_getElem? (i := 758) (by decide +kernel), List.mem_of_getElem? (i := 759) (by decide +kernel)⟩
theorem lw_p34 : lw_okq (⟨"CycleHouseModel", "isEven", "(J)Z"⟩, 20) := ⟨⟨by decide +kernel, by decide +kernel⟩, List.mem_of_getElem? (i := 616) (by decide +kernel), List.mem_of_getElem? (i := 766) (by decide +kernel), List.mem_of_getElem? (i := 767) (by decide +kernel)⟩
theorem lw_p35 : lw_okq (⟨"CycleHouseModel", "endsAt", "(JI)I"⟩, 20) := ⟨⟨by decide +kernel, by decide +kernel⟩, List.mem_of_getElem? (i := 616) (by decide +kernel), List.mem_of_getElem? (i := 770) (by decide +kernel), List.mem_of_getElem? (i := 771) (by decide +kernel)⟩
theorem lw_p36 : lw_okq (⟨"CycleHouseModel", "isRing", "(J)Z"⟩, 20) := ⟨⟨by decide +kernel, by decide +kernel⟩, List.mem_of_getElem? (i := 616) (by decide +kernel), List.mem_of_getElem? (i := 774) (by decide +kernel), List.mem_of_getElem? (i := 775) (by decide +kernel)⟩
theorem lw_p37 : lw_okq (⟨"CycleHouseModel", "spread", "()I"⟩, 20) := ⟨⟨by decide +kernel, by decide +kernel⟩, List.mem_of_getElem? (i := 616) (by decide +kernel), List.mem_of_getElem? (i := 782) (by decide +kernel), List.mem_of_getElem? (i := 783) (by decide +kernel)⟩
theorem lw_p38 : lw_okq (⟨"CycleHouseModel", "rest", "(J)J"⟩, 20) := ⟨⟨by decide +kernel, by decide +kernel⟩, List.mem_of_getElem? (i := 616) (by decide +kernel), List.mem_of_getElem? (i := 790) (by decide +kernel), List.mem_of_getElem? (i := 791) (by decide +kernel)⟩
theorem lw_p39 : lw_okq (⟨"CycleHouseModel", "take", "(J)Z"⟩, 20) := ⟨⟨by decide +kernel, by decide +kernel⟩, List.mem_of_getElem? (i := 616) (by decide +kernel), List.mem_of_getElem? (i := 794) (by decide +kernel), List.mem_of_getElem? (i := 795) (by decide +kernel)⟩
theorem lw_p40 : lw_okq (⟨"CycleHouseModel", "numberOf", "(J)I"⟩, 20) := ⟨⟨by decide +kernel, by decide +kernel⟩, List.mem_of_getElem? (i := 616) (by decide +kernel), List.mem_of_getElem? (i := 802) (by decide +kernel), List.mem_of_getElem? (i := 803) (by decide +kernel)⟩
theorem lw_p41 : lw_okq (⟨"CycleHouseModel", "takeList", "()V"⟩, 20) := ⟨⟨by decide +kernel, by decide +kernel⟩, List.mem_of_getElem? (i := 616) (by decide +kernel), List.mem_of_getElem? (i := 826) (by decide +kernel), List.mem_of_getElem? (i := 827) (by decide +kernel)⟩
theorem lw_p42 : lw_okq (⟨"CycleHouseModel", "alone", "()I"⟩, 20) := ⟨⟨by decide +kernel, by decide +kernel⟩, List.mem_of_getElem? (i := 616) (by decide +kernel), List.mem_of_getElem? (i := 834) (by decide +kernel), List.mem_of_getElem? (i := 835) (by decide +kernel)⟩
theorem lw_p43 : lw_okq (⟨"CycleHouseModel", "areEven", "()Z"⟩, 20) := ⟨⟨by decide +kernel, by decide +kernel⟩, List.mem_of_getElem? (i := 616) (by decide +kernel), List.mem_of_getElem? (i := 838) (by decide +kernel), List.mem_of_getElem? (i := 839) (by decide +kernel)⟩
theorem lw_p44 : lw_okq (⟨"CycleHouseModel", "rank", "()I"⟩, 20) := ⟨⟨by decide +kernel, by decide +kernel⟩, List.mem_of_getElem? (i := 616) (by decide +kernel), List.mem_of_getElem? (i := 842) (by decide +kernel), List.mem_of_getElem? (i := 843) (by decide +kernel)⟩
theorem lw_p45 : lw_okq (⟨"CycleHouseModel", "parting", "()I"⟩, 20) := ⟨⟨by decide +kernel, by decide +kernel⟩, List.mem_of_getElem? (i := 616) (by decide +kernel), List.mem_of_getElem? (i := 846) (by decide +kernel), List.mem_of_getElem? (i := 847) (by decide +kernel)⟩
def lw_privs_3 : List (MethodName × Nat) := [(⟨"CycleHouseModel", "determinant", "(I)J"⟩, 20), (⟨"CycleHouseModel", "weightOf", "(J)J"⟩, 20), (⟨"CycleHouseModel", "isEven", "(J)Z"⟩, 20), (⟨"CycleHouseModel", "endsAt", "(JI)I"⟩, 20), (⟨"CycleHouseModel", "isRing", "(J)Z"⟩, 20), (⟨"CycleHouseModel", "spread", "()I"⟩, 20), (⟨"CycleHouseModel", "rest", "(J)J"⟩, 20), (⟨"CycleHouseModel", "take", "(J)Z"⟩, 20), (⟨"CycleHouseModel", "numberOf", "(J)I"⟩, 20), (⟨"CycleHouseModel", "takeList", "()V"⟩, 20), (⟨"CycleHouseModel", "alone", "()I"⟩, 20), (⟨"CycleHouseModel", "areEven", "()Z"⟩, 20), (⟨"CycleHouseModel", "rank", "()I"⟩, 20), (⟨"CycleHouseModel", "parting", "()I"⟩, 20)]
theorem lw_r3 : ∀ q ∈ lw_privs_3, lw_okq q := List.forall_mem_cons.mpr ⟨lw_p32, List.forall_mem_cons.mpr ⟨lw_p33, List.forall_mem_cons.mpr ⟨lw_p34, List.forall_mem_cons.mpr ⟨lw_p35, List.forall_mem_cons.mpr ⟨lw_p36, List.forall_mem_cons.mpr ⟨lw_p37, List.forall_mem_cons.mpr ⟨lw_p38, List.forall_mem_cons.mpr ⟨lw_p39, List.forall_mem_cons.mpr ⟨lw_p40, List.forall_mem_cons.mpr ⟨lw_p41, List.forall_mem_cons.mpr ⟨lw_p42, List.forall_mem_cons.mpr ⟨lw_p43, List.forall_mem_cons.mpr ⟨lw_p44, List.forall_mem_cons.mpr ⟨lw_p45, fun _ h => absurd h List.not_mem_nil⟩⟩⟩⟩⟩⟩⟩⟩⟩⟩⟩⟩⟩⟩
def lw_privs : List (MethodName × Nat) := lw_privs_1 ++ (lw_privs_2 ++ (lw_privs_3))
def lw_tbl : List Cond := k2_sels lw_privs ++ tables_1
theorem lw_privs_ok : ∀ q ∈ lw_privs, lw_okq q := by
  show ∀ q ∈ lw_privs_1 ++ (lw_privs_2 ++ (lw_privs_3)), lw_okq q
  exact List.forall_mem_append.mpr ⟨lw_r1, List.forall_mem_append.mpr ⟨lw_r2, lw_r3⟩⟩
-- ===== end of PART A; then your names; then what follows =====
end
section
/-! ===== BEGIN words of one list among another's, by their places ===== -/
theorem goodIn_r {big : List Cond} (ws : List Cond) (ps : List Nat) (hp : ws = ps.filterMap (fun i => big[i]?)) (h : ws.all goodWord = true) : GoodIn big ws := by
  intro w hw
  have h1 := List.all_eq_true.mp h w hw
  rw [hp] at hw
  obtain ⟨i, -, hi⟩ := List.mem_filterMap.mp hw
  have hm : w ∈ big := by first | exact List.mem_of_getElem? hi | exact List.getElem?_mem hi
  exact ⟨hm, good_of_word h1⟩
theorem goodIn_app {big a b : List Cond} (ha : GoodIn big a) (hb : GoodIn big b) : GoodIn big (a ++ b) := fun w h => (List.mem_append.mp h).elim (ha w) (hb w)
theorem goodIn_ca {big a b : List Cond} {c : Cond} (ha : GoodIn big (c :: a)) (hb : GoodIn big b) : GoodIn big (c :: (a ++ b)) := fun w h => (List.mem_cons.mp h).elim (fun e => ha w (List.mem_cons.mpr (Or.inl e))) (fun h => (List.mem_append.mp h).elim (fun h => ha w (List.mem_cons.mpr (Or.inr h))) (hb w))
theorem goodIn_sub {big ws : List Cond} (hm : ∀ w ∈ ws, w ∈ big) (h : ws.all goodWord = true) : GoodIn big ws := fun w hw => ⟨hm w hw, good_of_word (List.all_eq_true.mp h w hw)⟩
/-! ===== END ===== -/
end
section
/-- arrays of arrays: the word of the tables -/
def va_AOA (ty : FieldType) (U : State) : Prop := (Cond.arrayOver (.array ty)).before #[] U = true
theorem va_AOA.of {ty : FieldType} {U : State} {A : Array Value} (h : (Cond.arrayOver (.array ty)).before A U = true) : va_AOA ty U := h
theorem va_AOA.use {ty : FieldType} {U : State} {A : Array Value} (h : va_AOA ty U) : (Cond.arrayOver (.array ty)).before A U = true := h
/-! ===== BEGIN new T[n][m]: the outer array a place, the inner ones among the pooled ===== -/
/-- f, but v at every address of l -/
def vr_up {α : Type} (f : Nat → α) (l : List Nat) (v : α) : Nat → α := fun a => if a ∈ l then v else f a
theorem vr_up_in {α : Type} {f : Nat → α} {l : List Nat} {v : α} {a : Nat} (h : a ∈ l) : vr_up f l v a = v := if_pos h
theorem vr_up_ne {α : Type} {f : Nat → α} {l : List Nat} {v : α} {a : Nat} (h : a ∉ l) : vr_up f l v a = f a := if_neg h
theorem vr_rows {L l : List Nat} {f : Nat → va_E} {e : va_E} (h : ∀ a, a ∈ l → a ∉ L) : va_pl L f ++ l.map (fun a => (a, e)) = va_pl (L ++ l) (vr_up f l e) := by
  unfold va_pl
  rw [List.map_append]
  congr 1
  · apply List.map_congr_left
    intro a ha
    rw [vr_up_ne (fun q => h a q ha)]
  · apply List.map_congr_left
    intro a ha
    rw [vr_up_in ha]
theorem vr_lay {X rows : va_W} {x : Nat × va_E} {pl : va_W} {D : va_G} {cl : List vw_C} {H : Heap} (hP : va_P D cl (((X ++ pl) ++ [x]) ++ rows) H) : va_P D cl ((X ++ [x]) ++ (pl ++ rows)) H := by
  rw [List.append_assoc (X ++ pl)] at hP
  have h := va_P.swap hP
  rw [← List.append_assoc X] at h
  have h2 := va_P.swap h
  rw [List.append_assoc (X ++ [x])] at h2
  exact h2
theorem vr_layD {X rows : va_W} {x : Nat × va_E} {pl : va_W} {A : Nat → Prop} (hD : va_D A (((X ++ pl) ++ [x]) ++ rows)) : va_D A ((X ++ [x]) ++ (pl ++ rows)) := by
  rw [List.append_assoc (X ++ pl)] at hD
  have h := va_D.swap hD
  rw [← List.append_assoc X] at h
  have h2 := va_D.swap h
  rw [List.append_assoc (X ++ [x])] at h2
  exact h2
theorem vr_outer (c : ClassId) (N h0 : Nat) : ∀ i : Nat, Jvm.Free.Multi.outerC c N h0 i = arrV c N (fun j => va_rf (if j < i then some (h0 + 1 + j) else none))
  | 0 => by
    show ({ cls := c, slots := Array.replicate N .null, vm := .none } : Cell) = _
    rw [arrV_new]
    refine congrArg (arrV c N) (funext fun j => ?_)
    simp [va_rf]
  | i + 1 => by
    show (Jvm.Free.Multi.outerC c N h0 i).setSlot i (.ref (h0 + 1 + i)) = _
    rw [vr_outer c N h0 i, arrV_store]
    refine congrArg (arrV c N) (funext fun j => ?_)
    by_cases e : j = i
    · subst e
      simp [updV, va_rf]
    · by_cases h : j < i
      · simp [updV, e, h, Nat.lt_succ_of_lt h]
      · simp [updV, e, h, show ¬ j < i + 1 by omega]
section VGM
variable {p : Program} {l : Launch} {e : Env} {R : Room} {s : State} {m : MethodId} {args : Array Value} {below : List Frame} {meth : Method} {c : Code} {H : Heap} {locs : List Loc} {cells slots : Nat} {Q : State → Prop}
variable {cc : ByteArray} {pc : Nat} {ls : Array Slot} {rest : List Value} {D : va_G} {cl : List vw_C} {A : Nat → Prop} {a : Nat} {tys : List (ClassId × FieldType)} {ws : va_W} {H0 : Heap}
theorem va_mna {X : va_W} {L : List Nat} {f : Nat → va_E} {cc : ByteArray} (hexec : p.tables.exec = Jvm.exec) (hb : c.code = cc) {own : String} {index : Nat} {ty : FieldType} {cy : ClassId} (hown : s.vm.findClass own = some m.cls) (hclink : (Cond.classLink own index ("[" ++ (FieldType.array ty).toString)).before args s = true) (hover : va_AOA ty s) (harr : (Cond.arrayClass ty).before args s = true) (hcy : s.vm.findClass (FieldType.array ty).toString = some cy)
    (hK : va_K D cl tys s) (hP : va_P D cl (X ++ va_pl L f) H) (hD : va_D A (X ++ va_pl L f)) (hS : va_S A H0 H locs) (hA : ∀ q, H0.size ≤ q → A q) {n k : Int32} {N' K' : Nat} {z : vp_A} (hn : ¬ n < 0) (hk : ¬ k < 0) (hN : n.toNatClampNeg = N') (hM : k.toNatClampNeg = K')
    (hb1 : N' * 4 ≤ 536870912) (hb2 : K' * componentBytes ty ≤ 536870912) (hb3 : K' ≤ 536870912) (hdf : fits ty (defaultValue ty) = true) (hdd : (defaultValue ty).isDefault = true) (hcells : cells + (1 + N') ≤ R.cells) (hslots : slots + (N' + N' * K') ≤ R.slots) (hz : ∀ c : ClassId, Jvm.Free.Multi.innerC c K' (defaultValue ty) = vp_cell c z) (hdg : decode cc pc = .ok (.multianewarray index 2, 4))
    (kk : ∀ (q : Nat) (r : Nat → Nat) (cA : ClassId) (H1 : Heap), (∀ i j : Nat, i < N' → j < N' → r i = r j → i = j) → (∀ i : Nat, i < N' → r i ∉ L) → va_K D cl (tys ++ [(cA, .array ty)]) s →
      va_P D cl ((X ++ [(q, .inl (cA, N', .inr (.inr (.inr (.inr (fun i => if i < N' then some (r i) else none))))))]) ++ va_pl (L ++ (List.range N').map r) (vr_up f ((List.range N').map r) (.inl (cy, z)))) H1 → va_D A ((X ++ [(q, .inl (cA, N', .inr (.inr (.inr (.inr (fun i => if i < N' then some (r i) else none))))))]) ++ va_pl (L ++ (List.range N').map r) (vr_up f ((List.range N').map r) (.inl (cy, z)))) → va_S A H0 H1 locs →
      W p l e R s m args below meth c H1 locs (cells + 1 + N') (slots + N' + N' * K') Q (F0 m (pc + 4) ls (.ref q :: rest))) : W p l e R s m args below meth c H locs cells slots Q (F0 m pc ls (.int k :: .int n :: rest)) := by
  subst hN
  subst hM
  intro T hT Xs
  obtain ⟨vm₁, cA, comp, -, fA, fC, hO, -, X', step⟩ := Xs.multianewarray2F hexec hown hclink (va_AOA.use hover) harr (g := F0 m pc ls (.int k :: .int n :: rest)) rfl (by rw [hb]; exact hdg) rfl hn hk hb1 hb2 hb3 hdf hdd hcells hslots
  have ec : some cy = some comp := hcy.symm.trans fC
  cases ec
  generalize hF : Jvm.Free.Multi.fill (T.setVm vm₁) cA cy n.toNatClampNeg k.toNatClampNeg (defaultValue ty) n.toNatClampNeg = F at X' step
  have hTh : (T.setVm vm₁).heap = H := hT
  obtain ⟨f1, f2, -, -⟩ := Jvm.Free.Multi.fill_facts (T.setVm vm₁) cA cy n.toNatClampNeg k.toNatClampNeg (defaultValue ty) n.toNatClampNeg
  rw [hF, hTh] at f1 f2
  have hold : ∀ x : Nat, x < H.size → F.heap[x]? = H[x]? := fun x hx => by
    have := Jvm.Free.Multi.fill_old (T.setVm vm₁) cA cy n.toNatClampNeg k.toNatClampNeg (defaultValue ty) (a := x) (by rw [hTh]; exact hx) n.toNatClampNeg
    rw [hF, hTh] at this
    exact this
  have hrow : ∀ j : Nat, j < n.toNatClampNeg → F.heap[H.size + 1 + j]? = some (vp_cell cy z) := fun j hj => by
    have := Jvm.Free.Multi.fill_inner (T.setVm vm₁) cA cy n.toNatClampNeg k.toNatClampNeg (defaultValue ty) n.toNatClampNeg j hj
    rw [hF, hTh, hz] at this
    exact this
  have hout : Jvm.Free.Multi.outerC cA n.toNatClampNeg H.size n.toNatClampNeg = vp_cell cA (n.toNatClampNeg, .inr (.inr (.inr (.inr (fun i => if i < n.toNatClampNeg then some (H.size + 1 + i) else none))))) := by
    rw [vp_cell_q]
    exact vr_outer cA n.toNatClampNeg H.size n.toNatClampNeg
  rw [hout] at f2
  have hlt : ∀ a, a ∈ L → a < H.size := fun a ha => by
    obtain ⟨k9, hk9⟩ := va_pl_get (X := X) (f := f) ha
    exact (hP k9 _ hk9).lt
  have hnl : ∀ i : Nat, i < n.toNatClampNeg → H.size + 1 + i ∉ L := fun i _ h => by
    have := hlt _ h
    omega
  have hnm : ∀ a, a ∈ (List.range n.toNatClampNeg).map (fun i => H.size + 1 + i) → a ∉ L := fun a ha h => by
    obtain ⟨i, -, rfl⟩ := List.mem_map.mp ha
    have := hlt _ h
    omega
  have hP0 : va_P D cl (X ++ va_pl L f) F.heap := hP.kept (fun k9 x hx => hold x.1 ((hP k9 x hx).lt))
  have hP1 : va_P D cl ((X ++ va_pl L f) ++ [(H.size, .inl (cA, n.toNatClampNeg, .inr (.inr (.inr (.inr (fun i => if i < n.toNatClampNeg then some (H.size + 1 + i) else none))))))]) F.heap := hP0.app (fun k9 x hx => by
    have h0 : k9 < 1 := (List.getElem?_eq_some_iff.mp hx).1
    rw [show k9 = 0 by omega] at hx
    cases hx
    exact f2)
  have hP2 : va_P D cl (((X ++ va_pl L f) ++ [(H.size, .inl (cA, n.toNatClampNeg, .inr (.inr (.inr (.inr (fun i => if i < n.toNatClampNeg then some (H.size + 1 + i) else none))))))]) ++ ((List.range n.toNatClampNeg).map (fun i => H.size + 1 + i)).map (fun a => (a, .inl (cy, z)))) F.heap := hP1.app (fun k9 x hx => by
    obtain ⟨a, ha, rfl⟩ := List.mem_map.mp (List.mem_of_getElem? hx)
    obtain ⟨i, hi, rfl⟩ := List.mem_map.mp ha
    exact hrow i (List.mem_range.mp hi))
  have hD2 : va_D A (((X ++ va_pl L f) ++ [(H.size, .inl (cA, n.toNatClampNeg, .inr (.inr (.inr (.inr (fun i => if i < n.toNatClampNeg then some (H.size + 1 + i) else none))))))]) ++ ((List.range n.toNatClampNeg).map (fun i => H.size + 1 + i)).map (fun a => (a, .inl (cy, z)))) := by
    have hD1 := hD.push (e := .inl (cA, n.toNatClampNeg, .inr (.inr (.inr (.inr (fun i => if i < n.toNatClampNeg then some (H.size + 1 + i) else none)))))) hP rfl (hA _ hS.1)
    generalize hW1 : (X ++ va_pl L f) ++ [(H.size, .inl (cA, n.toNatClampNeg, .inr (.inr (.inr (.inr (fun i => if i < n.toNatClampNeg then some (H.size + 1 + i) else none))))))] = W1 at hD1 hP1 ⊢
    have hle : ∀ (k9 : Nat) (x : Nat × va_E), W1[k9]? = some x → x.1 ≤ H.size := fun k9 x hx => by
      rw [← hW1] at hx
      by_cases hl : k9 < (X ++ va_pl L f).length
      · rw [List.getElem?_append_left hl] at hx
        exact Nat.le_of_lt ((hP k9 x hx).lt)
      · rw [List.getElem?_append_right (by omega)] at hx
        have h0 : k9 - (X ++ va_pl L f).length < 1 := (List.getElem?_eq_some_iff.mp hx).1
        rw [show k9 - (X ++ va_pl L f).length = 0 by omega] at hx
        cases hx
        exact Nat.le_refl _
    have hr : ∀ (k9 : Nat) (x : Nat × va_E), (((List.range n.toNatClampNeg).map (fun i => H.size + 1 + i)).map (fun a => ((a, .inl (cy, z)) : Nat × va_E)))[k9]? = some x → x.1 = H.size + 1 + k9 := fun k9 x hx => by
      rw [List.getElem?_map, List.getElem?_map] at hx
      by_cases h9 : k9 < n.toNatClampNeg
      · rw [List.getElem?_range h9] at hx
        cases hx
        rfl
      · have hn0 : (List.range n.toNatClampNeg)[k9]? = none := List.getElem?_eq_none (by rw [List.length_range]; omega)
        rw [hn0] at hx
        cases hx
    refine ⟨fun i j x y hi hj hxy => ?_, fun k9 x hx => ?_⟩
    · by_cases h1 : i < W1.length <;> by_cases h2 : j < W1.length
      · rw [List.getElem?_append_left h1] at hi
        rw [List.getElem?_append_left h2] at hj
        exact hD1.1 i j x y hi hj hxy
      · rw [List.getElem?_append_left h1] at hi
        rw [List.getElem?_append_right (by omega)] at hj
        have := hle _ _ hi
        have := hr _ _ hj
        omega
      · rw [List.getElem?_append_right (by omega)] at hi
        rw [List.getElem?_append_left h2] at hj
        have := hle _ _ hj
        have := hr _ _ hi
        omega
      · rw [List.getElem?_append_right (by omega)] at hi hj
        have := hr _ _ hi
        have := hr _ _ hj
        omega
    · by_cases h1 : k9 < W1.length
      · rw [List.getElem?_append_left h1] at hx
        exact hD1.2 k9 x hx
      · rw [List.getElem?_append_right (by omega)] at hx
        have := hr _ _ hx
        exact hA _ (by have := hS.1; omega)
  have hAr : ArrOfT s cA (.array ty) := fun N9 z9 => by
    obtain ⟨-, k9, hk9, cm9, hkk9⟩ := (hO 0 0 0).1
    exact ⟨(fun q hq => by cases hq), k9, hk9, cm9, hkk9⟩
  have hK2 : va_K D cl (tys ++ [(cA, .array ty)]) s := ⟨hK.1, fun k9 x hx => by
    by_cases hl : k9 < tys.length
    · rw [List.getElem?_append_left hl] at hx
      exact hK.2 k9 x hx
    · rw [List.getElem?_append_right (by omega)] at hx
      have h0 : k9 - tys.length < 1 := (List.getElem?_eq_some_iff.mp hx).1
      rw [show k9 - tys.length = 0 by omega] at hx
      cases hx
      exact ⟨hAr, fA⟩⟩
  obtain ⟨t, a1, b1⟩ := kk H.size (fun i => H.size + 1 + i) cA F.heap (fun i j _ _ h => by have h9 : H.size + 1 + i = H.size + 1 + j := h; omega) hnl hK2 (by rw [← vr_rows hnm]; exact vr_lay hP2) (by rw [← vr_rows hnm]; exact vr_layD hD2) ⟨by rw [f1]; have := hS.1; omega, fun x h1 h2 => (hold x (Nat.lt_of_lt_of_le h1 hS.1)).trans (hS.2.1 x h1 h2), hS.2.2⟩ F rfl X'
  refine ⟨t, step t ?_, b1⟩
  have e : T.heap.size = H.size := by rw [hT]
  rw [e]
  exact a1
end VGM
/-! ===== END ===== -/
end
section

/-! ===== BEGIN exceptions that leave a method, and their catching by the caller (launches without stack traces) ===== -/
section VXA
/-! The laws vx_back, vx_callV, vx_callS, vx_callSW, vx_throw0, vx_throwS follow proofs of the library, with one case more: JvmDerived/Free/Laws.lean (Back.of_free), Shelf42/LK1.lean (callV, callS), Shelf/KitTraced.lean (throwNew0V, throwNewS). -/
/-- where a method has thrown q: the class by its name, the cell, what was written, the world -/
def vx_T (XC : String → State → State → Prop) (st : State) (q : Addr) (t : State) (mc ms : Nat) (free : Addr → Prop) : Prop :=
  ∃ (E : String) (ce : Cell) (L : List Loc), XC E st t ∧ t.heap[q]? = some ce ∧ ce.vm = .none ∧ st.vm.findClass E = some ce.cls ∧ st.WarmedH t.vm ∧ st.sameButNew ({ t with vm := st.vm } : State) L mc ms ∧ ∀ z ∈ L, free z.base
def vx_Q (Qc : Array Value → State → Outcome → State → Prop) (XC : String → State → State → Prop) (mc ms : Nat) (free : Addr → Prop) : Array Value → State → Outcome → State → Prop := fun a st o t =>
  (Qc a st o t ∧ ∃ L, FrameEnd st o t L mc ms ∧ ∀ q ∈ L, free q.base) ∨ ∃ q, o = .threw q ∧ vx_T XC st q t mc ms free
/-- a callee that returns or throws -/
def vx_Met (l : Launch) (y : MethodName) (ws : List Cond) (rm : Room) (Pc : Array Value → State → Prop) (Qc : Array Value → State → Outcome → State → Prop) (XC : String → State → State → Prop) (mc ms : Nat) (free : Addr → Prop) : Prop :=
  MetFree l y (headSpec ws rm) Pc (fun _ _ _ _ _ => True) (vx_Q Qc XC mc ms free)
def vx_Post (XC : String → State → State → Prop) (mc ms : Nat) (free : Addr → Prop) : Pt → Array Value → Addr → Pt → Prop := fun A a q B =>
  ∃ (g : JFrame) (mk : MethodId) (t : State) (L : List Loc) (E : String) (ce : Cell), B.U.heap = t.heap ∧ B.U.vm = t.vm ∧ XC E (A.U.calling g mk a) t ∧ t.heap[q]? = some ce ∧ ce.vm = .none ∧ A.U.vm.findClass E = some ce.cls ∧ B.locs = A.locs ++ L ∧ (∀ z ∈ L, free z.base) ∧ B.cells = A.cells + mc ∧ B.slots = A.slots + ms
def vx_Back (l : Launch) (R : Room) (p : Program) (e : Env) (below : List Frame) (s : State) (sargs : Array Value) (y : MethodName) (len W9 : Nat)
    (Pre : Pt → Array Value → Prop) (Post : Pt → Array Value → Option Value → Pt → Prop) (PostX : Pt → Array Value → Addr → Pt → Prop) : Prop :=
  ∀ (m : MethodId) (meth : Method) (c : Code) (A : Pt) (g : JFrame) (ig : Instr) (mk : MethodId) (a : Array Value),
    Stand p l e R s m sargs below meth c A.U A.locs A.cells A.slots → g.method = m → g.locals.size = c.maxLocals → decode c.code g.pc = .ok (ig, len) →
    2 * g.monitorRoom + (g.stack.map fun v => v.category).sum ≤ W9 → A.U.methodNamed? y = some mk → Pre A a →
    (∃ (v : Option Value) (B : Pt), Stand p l e R s m sargs below meth c B.U B.locs B.cells B.slots ∧ Post A a v B ∧
      Steps p.tables e below (doInvoke e (A.U.setTop g) [] mk a).1 (B.U.setTop { g with pc := g.pc + len, stack := v.toList ++ g.stack })) ∨
    (∃ (q : Addr) (B : Pt), Stand p l e R s m sargs below meth c B.U B.locs B.cells B.slots ∧ PostX A a q B ∧
      Steps p.tables e below (doInvoke e (A.U.setTop g) [] mk a).1 ((B.U.setTop g).pushFrame (.throwing q)))
section Payer
variable {l : Launch} {R : Room} {p : Program} {e : Env} {below : List Frame} {s : State} {sargs : Array Value} {y : MethodName} {len W9 : Nat}
theorem vx_back {ws : List Cond} {rm : Room} {Pc : Array Value → State → Prop} {Qc : Array Value → State → Outcome → State → Prop} {XC : String → State → State → Prop} {mc ms : Nat} {free : Addr → Prop} {bytes : ByteArray} {maxL : Nat} {ret : Option FieldType}
    (hM : vx_Met l y ws rm Pc Qc XC mc ms free) (hblind : FrameBlind Pc) (hrc : rm.cells = mc) (hrs : rm.slots = ms)
    (hframes : rm.frames + 1 ≤ R.frames) (hlocals : W9 + (maxL + 11) + rm.locals ≤ R.locals)
    (hws : ∀ w ∈ ws, ∀ a' U, s.WarmedH U.vm → w.before a' U = true) (hcode : Cond.code y bytes maxL ret ∈ ws) (hinit : ∀ a' U, s.WarmedH U.vm → (Cond.initialized y.cls).before a' U = true) :
    vx_Back l R p e below s sargs y len W9 (PreOf R mc ms Pc) (PostOf Qc mc ms free) (vx_Post XC mc ms free) := by
  intro m meth c A g ig mk a X hg hsize hdg hW hn hp
  have h1 : (headSpec ws rm).pre.before a A.U = true := atoms_intro fun w hw => hws w hw _ _ X.warmed
  have h2 : (Cond.code y bytes maxL ret).before a A.U = true := hws _ hcode _ _ X.warmed
  have h3 : (Cond.initialized y.cls).before a A.U = true := hinit _ _ X.warmed
  have h4 : A.cells + (headSpec ws rm).room.cells ≤ R.cells := by rw [show (headSpec ws rm).room.cells = mc from hrc]; exact hp.1
  have h5 : A.slots + (headSpec ws rm).room.slots ≤ R.slots := by rw [show (headSpec ws rm).room.slots = ms from hrs]; exact hp.2.1
  have hPc : Pc a (A.U.calling g mk a) := hblind _ _ _ _ hp.2.2
  obtain ⟨U, Ls, c0, s0⟩ := A
  dsimp only [Pt.U, Pt.locs, Pt.cells, Pt.slots] at h1 h2 h3 h4 h5 X hn hPc ⊢
  obtain ⟨methY, cY, hmY, hcY, -, hlY, -, -, -, -⟩ := Cond.code_spec hn h2
  obtain ⟨kY, hkY, -⟩ := className_of_methodNamed hn
  have hinitY : kY.init = .initialized := Cond.initialized_spec (findClass_of_methodNamed hn) hkY h3
  have h : At U g.method c below := by rw [hg]; exact X.here
  have hlocals9 : W9 + (maxL + 11) + (headSpec ws rm).room.locals ≤ R.locals := hlocals
  have happ : (headSpec ws rm).appliesLoose y e.platform (U.calling g mk a) = true :=
    Spec.appliesLoose_calling (g := g) h hdg hn hkY hinitY
      (X.room_calling (g := g) (R' := (headSpec ws rm).room) hsize hmY hcY hframes (by rw [hlY]; omega) h4 h5) h1
  obtain ⟨mid, hmid⟩ := h.above
  have hfr : (U.setTop g).frames = (.java g :: mid) ++ below := by rw [State.frames_setTop' g h.top, hmid]; rfl
  obtain ⟨o, s₂, hsteps, -, hend, hq⟩ := Steps.callFree hM p X.admits X.cas X.clock (acts := []) hfr happ hPc trivial
  have hq' : vx_Q Qc XC mc ms free a (U.calling g mk a) o s₂ := hq
  rw [State.frames_setTop' g h.top] at hend
  obtain ⟨g₀, hg0⟩ := Option.isSome_iff_exists.mp h.top
  obtain ⟨r, hr⟩ := State.topJava?_eq_some.mp hg0
  have hr' : (({ U with heap := s₂.heap, slotsUsed := s₂.slotsUsed } : State).setVm s₂.vm).frames = .java g₀ :: r := hr
  rcases hq' with ⟨hqc, L, hfe, hL⟩ | ⟨q, rfl, E, ce, L, hx, hce, hcv, hcl, hW₂, hsm, hL⟩
  · obtain ⟨⟨v, rfl⟩, hW₂, e2, q2, q3, q4, q5, q6⟩ := id hfe
    have e3 : s₂ = ({ (U.calling g mk a).setFrames s₂.frames with heap := s₂.heap, slotsUsed := s₂.slotsUsed } : State).setVm s₂.vm := by
      have : s₂ = ({ s₂ with vm := (U.calling g mk a).vm } : State).setVm s₂.vm := rfl
      rw [e2] at this
      exact this
    obtain ⟨c₂, i₂, len₂, hc₂, hd₂, hf₂⟩ := hend
    have hW' : U.WarmedH s₂.vm := hW₂
    have hcc : c₂ = c := by
      have h1 : s₂.code? g.method = U.code? g.method := by
        rw [State.code?_eq, State.code?_eq, hW'.alike.method?]
      exact Option.some.inj (hc₂.symm.trans (h1.trans h.code))
    subst hcc
    have hlen : len₂ = len := by rw [hdg] at hd₂; cases hd₂; rfl
    subst hlen
    have hs₂ : s₂ = (({ U with heap := s₂.heap, slotsUsed := s₂.slotsUsed } : State).setVm s₂.vm).setTop { g with pc := g.pc + len₂, stack := v.toList ++ g.stack } := by
      refine e3.trans ?_
      rw [hf₂, State.calling_eq h.top, State.setFrames_setFrames, State.setTop_of_frames _ hr', hr]
      rfl
    have hsame : U.sameButNew ({ U with heap := s₂.heap, slotsUsed := s₂.slotsUsed } : State) L mc ms := by
      refine ⟨?_, q2, q3, q4, q5, q6⟩
      obtain ⟨t, ht, -⟩ := State.frames_cons hr
      show ({ U with heap := s₂.heap, slotsUsed := s₂.slotsUsed } : State) = { U.setFrames U.frames with heap := s₂.heap, slotsUsed := s₂.slotsUsed }
      rw [State.setFrames_self ht]
    subst hg
    refine Or.inl ⟨v, ⟨(({ U with heap := s₂.heap, slotsUsed := s₂.slotsUsed } : State).setVm s₂.vm), Ls ++ L, c0 + mc, s0 + ms⟩,
      ⟨X.admits, X.cas, X.clock, X.frames, X.room, X.hears, X.method, X.code, (X.here.setHeapUsed s₂.heap s₂.slotsUsed).setVm hW'.alike, X.tail, State.WarmedH.trans X.warmed hW', X.limits, X.bytes, X.same.trans (hsame.setVm s.vm)⟩,
      ⟨g, mk, s₂, L, rfl, rfl, hqc, rfl, hL, rfl, rfl⟩, ?_⟩
    show Steps p.tables e below _ ((({ U with heap := s₂.heap, slotsUsed := s₂.slotsUsed } : State).setVm s₂.vm).setTop { g with pc := g.pc + len₂, stack := v.toList ++ g.stack })
    rw [← hs₂]
    exact hsteps
  · obtain ⟨e2, q2, q3, q4, q5, q6⟩ := id hsm
    have e3 : s₂ = ({ (U.calling g mk a).setFrames s₂.frames with heap := s₂.heap, slotsUsed := s₂.slotsUsed } : State).setVm s₂.vm := by
      have : s₂ = ({ s₂ with vm := (U.calling g mk a).vm } : State).setVm s₂.vm := rfl
      rw [e2] at this
      exact this
    have hf₂ : s₂.frames = .throwing q :: .java g :: U.frames.tail := hend
    have hW' : U.WarmedH s₂.vm := hW₂
    have hs₂ : s₂ = ((({ U with heap := s₂.heap, slotsUsed := s₂.slotsUsed } : State).setVm s₂.vm).setTop g).pushFrame (.throwing q) := by
      refine e3.trans ?_
      rw [hf₂, State.calling_eq h.top, State.setFrames_setFrames, State.pushFrame, State.frames_setTop _ hr', State.setTop_of_frames _ hr', State.setFrames_setFrames, hr]
      rfl
    have hsame : U.sameButNew ({ U with heap := s₂.heap, slotsUsed := s₂.slotsUsed } : State) L mc ms := by
      refine ⟨?_, q2, q3, q4, q5, q6⟩
      obtain ⟨t, ht, -⟩ := State.frames_cons hr
      show ({ U with heap := s₂.heap, slotsUsed := s₂.slotsUsed } : State) = { U.setFrames U.frames with heap := s₂.heap, slotsUsed := s₂.slotsUsed }
      rw [State.setFrames_self ht]
    subst hg
    refine Or.inr ⟨q, ⟨(({ U with heap := s₂.heap, slotsUsed := s₂.slotsUsed } : State).setVm s₂.vm), Ls ++ L, c0 + mc, s0 + ms⟩,
      ⟨X.admits, X.cas, X.clock, X.frames, X.room, X.hears, X.method, X.code, (X.here.setHeapUsed s₂.heap s₂.slotsUsed).setVm hW'.alike, X.tail, State.WarmedH.trans X.warmed hW', X.limits, X.bytes, X.same.trans (hsame.setVm s.vm)⟩,
      ⟨g, mk, s₂, L, E, ce, rfl, rfl, hx, hce, hcv, hcl, rfl, hL, rfl, rfl⟩, ?_⟩
    show Steps p.tables e below _ (((({ U with heap := s₂.heap, slotsUsed := s₂.slotsUsed } : State).setVm s₂.vm).setTop g).pushFrame (.throwing q))
    rw [← hs₂]
    exact hsteps
end Payer
section Calls
variable {p : Program} {l : Launch} {e : Env} {R : Room} {s : State} {m : MethodId} {args : Array Value} {below : List Frame} {meth : Method} {c : Code} {T : State} {locs : List Loc} {cells slots : Nat}
theorem vx_callV (X : Stand p l e R s m args below meth c T locs cells slots) (hexec : p.tables.exec = Jvm.exec) {own C : String} {index : Nat} {y : MethodName} {bytes : ByteArray} {maxL : Nat} {ret : Option FieldType}
    (hown : s.vm.findClass own = some m.cls) (hlink : (Cond.methodLink own index y).before args s = true) (hinst : (Cond.instanceMethod y).before args s = true) (hsel : (Cond.selects C y y).before args s = true)
    (hcode : (Cond.code y bytes maxL ret).before args s = true) (hy : y.cls ≠ "java/lang/invoke/MethodHandle" ∧ y.cls ≠ "java/lang/invoke/VarHandle")
    {W9 : Nat} {Pre : Pt → Array Value → Prop} {Post : Pt → Array Value → Option Value → Pt → Prop} {PostX : Pt → Array Value → Addr → Pt → Prop} (hK : vx_Back l R p e below s args y 3 W9 Pre Post PostX)
    {b : Addr} {cellB : Cell} (hcell : T.heap[b]? = some cellB) (hobj : cellB.vm.isStatics = false) (hcls : s.vm.findClass C = some cellB.cls)
    {g : JFrame} (hg : g.method = m) (hsize : g.locals.size = c.maxLocals) {argsL rest : List Value} (hlen : ∀ sig, parseMethodDescriptor y.desc = some sig → argsL.length = sig.parameters.length)
    (hstack : g.stack = argsL.reverse ++ .ref b :: rest) (hW : 2 * g.monitorRoom + (rest.map fun v => v.category).sum ≤ W9) (hdg : decode c.code g.pc = .ok (.invokevirtual index, 3))
    (hpre : ∀ vm₁, s.WarmedH vm₁ → Pre ⟨T.setVm vm₁, locs, cells, slots⟩ (Value.ref b :: argsL).toArray) :
    (∃ (v : Option Value) (vm₁ : Vm) (B : Pt), s.WarmedH vm₁ ∧ Stand p l e R s m args below meth c B.U B.locs B.cells B.slots ∧ Post ⟨T.setVm vm₁, locs, cells, slots⟩ (Value.ref b :: argsL).toArray v B ∧
      ∀ target, Steps p.tables e below (B.U.setTop { g with pc := g.pc + 3, stack := v.toList ++ rest }) target → Steps p.tables e below (T.setTop g) target) ∨
    (∃ (q : Addr) (vm₁ : Vm) (B : Pt), s.WarmedH vm₁ ∧ Stand p l e R s m args below meth c B.U B.locs B.cells B.slots ∧ PostX ⟨T.setVm vm₁, locs, cells, slots⟩ (Value.ref b :: argsL).toArray q B ∧
      Steps p.tables e below (T.setTop g) ((B.U.setTop { g with stack := rest }).pushFrame (.throwing q))) := by
  obtain ⟨mk, methM, hnamed, hmethM, hstM, habM⟩ := Cond.instanceMethod_spec hinst
  obtain ⟨methM', cM, hmethM', -, -, -, -, -, -, hsigM⟩ := Cond.code_spec hnamed hcode
  cases hmethM.symm.trans hmethM'
  obtain ⟨c2, r2, m2, q1, q2, q3, q4, kP, hkP, hkPi⟩ := Cond.selects_spec hsel
  cases hcls.symm.trans q1
  cases (State.methodFound?_of_named hnamed hy).symm.trans q2
  cases hnamed.symm.trans q3
  have hselP : selectMethod e.platform s.vm cellB.cls mk = .method mk := by rw [Launch.admits_selectMethod X.admits]; exact q4
  obtain ⟨vm₁, X₁, hstep₁⟩ := X.invokevirtual hexec hown hlink hnamed hmethM hstM hkP hkPi hy (a := b) (cell := cellB) hcell
    (fun z h => by rw [h] at hobj; cases hobj) hselP hmethM habM hkP hkPi (g := g) hg (argsL := argsL) (rest := rest) (hlen _ hsigM) hstack hdg
  rcases hK m meth c ⟨T.setVm vm₁, locs, cells, slots⟩ { g with stack := rest } (.invokevirtual index) mk (Value.ref b :: argsL).toArray X₁ hg hsize hdg hW (X₁.named hnamed) (hpre vm₁ X₁.warmed) with ⟨v, B, X', hpost, hsteps⟩ | ⟨q, B, X', hpost, hsteps⟩
  · exact Or.inl ⟨v, vm₁, B, X₁.warmed, X', hpost, fun target h => hstep₁ _ fun acts => by rw [doInvoke_state]; exact hsteps.trans h⟩
  · exact Or.inr ⟨q, vm₁, B, X₁.warmed, X', hpost, hstep₁ _ fun acts => by rw [doInvoke_state]; exact hsteps⟩
theorem vx_callS (X : Stand p l e R s m args below meth c T locs cells slots) (hexec : p.tables.exec = Jvm.exec) {own : String} {index : Nat} {y : MethodName} {bytes : ByteArray} {maxL : Nat} {ret : Option FieldType}
    (hown : s.vm.findClass own = some m.cls) (hlink : (Cond.methodLink own index y).before args s = true) (hstat : (Cond.static y).before args s = true) (hinit : (Cond.initialized y.cls).before args s = true)
    (hcode : (Cond.code y bytes maxL ret).before args s = true) (hy : y.cls ≠ "java/lang/invoke/MethodHandle" ∧ y.cls ≠ "java/lang/invoke/VarHandle")
    {W9 : Nat} {Pre : Pt → Array Value → Prop} {Post : Pt → Array Value → Option Value → Pt → Prop} {PostX : Pt → Array Value → Addr → Pt → Prop} (hK : vx_Back l R p e below s args y 3 W9 Pre Post PostX)
    {g : JFrame} (hg : g.method = m) (hsize : g.locals.size = c.maxLocals) {argsL rest : List Value} (hlen : ∀ sig, parseMethodDescriptor y.desc = some sig → argsL.length = sig.parameters.length)
    (hstack : g.stack = argsL.reverse ++ rest) (hW : 2 * g.monitorRoom + (rest.map fun v => v.category).sum ≤ W9) (hdg : decode c.code g.pc = .ok (.invokestatic index, 3))
    (hpre : ∀ vm₁, s.WarmedH vm₁ → Pre ⟨T.setVm vm₁, locs, cells, slots⟩ argsL.toArray) :
    (∃ (v : Option Value) (vm₁ : Vm) (B : Pt), s.WarmedH vm₁ ∧ Stand p l e R s m args below meth c B.U B.locs B.cells B.slots ∧ Post ⟨T.setVm vm₁, locs, cells, slots⟩ argsL.toArray v B ∧
      ∀ target, Steps p.tables e below (B.U.setTop { g with pc := g.pc + 3, stack := v.toList ++ rest }) target → Steps p.tables e below (T.setTop g) target) ∨
    (∃ (q : Addr) (vm₁ : Vm) (B : Pt), s.WarmedH vm₁ ∧ Stand p l e R s m args below meth c B.U B.locs B.cells B.slots ∧ PostX ⟨T.setVm vm₁, locs, cells, slots⟩ argsL.toArray q B ∧
      Steps p.tables e below (T.setTop g) ((B.U.setTop { g with stack := rest }).pushFrame (.throwing q))) := by
  obtain ⟨mk, hnamed⟩ := Cond.code_named hcode
  obtain ⟨methM, cM, hmethM, -, -, -, -, -, -, hsigM⟩ := Cond.code_spec hnamed hcode
  have hstatic : methM.isStatic = true := Cond.static_spec hnamed hmethM hstat
  obtain ⟨kP, hkP, -⟩ := className_of_methodNamed hnamed
  have hinitP : kP.init = .initialized := Cond.initialized_spec (findClass_of_methodNamed hnamed) hkP hinit
  obtain ⟨vm₁, X₁, hstep₁⟩ := X.invokestatic hexec hown hlink hnamed hmethM hstatic hkP hinitP hy (g := g) hg (argsL := argsL) (rest := rest) (hlen _ hsigM) hstack hdg
  rcases hK m meth c ⟨T.setVm vm₁, locs, cells, slots⟩ { g with stack := rest } (.invokestatic index) mk argsL.toArray X₁ hg hsize hdg hW (X₁.named hnamed) (hpre vm₁ X₁.warmed) with ⟨v, B, X', hpost, hsteps⟩ | ⟨q, B, X', hpost, hsteps⟩
  · exact Or.inl ⟨v, vm₁, B, X₁.warmed, X', hpost, fun target h => hstep₁ _ fun acts => by rw [doInvoke_state]; exact hsteps.trans h⟩
  · exact Or.inr ⟨q, vm₁, B, X₁.warmed, X', hpost, hstep₁ _ fun acts => by rw [doInvoke_state]; exact hsteps⟩
end Calls
theorem vx_cls {s : State} {T : State} {vm₁ : Vm} {E : String} {k : ClassId} (hW : s.WarmedH vm₁) (h : (T.setVm vm₁).vm.findClass E = some k) : s.vm.findClass E = some k := by
  have h1 : vm₁.findClass E = some k := h
  rw [hW.alike.findClass] at h1
  exact h1
/-- the method's frame g, with q thrown over it -/
def vx_W (p : Program) (l : Launch) (e : Env) (R : Room) (s : State) (m : MethodId) (args : Array Value) (below : List Frame) (meth : Method) (c : Code) (H : Heap) (locs : List Loc) (cells slots : Nat) (Q : State → Prop) (g : JFrame) (q : Addr) : Prop :=
  ∀ T : State, T.heap = H → Stand p l e R s m args below meth c T locs cells slots → ∃ t, Steps p.tables e below ((T.setTop g).pushFrame (.throwing q)) t ∧ Q t
def vx_Run (p : Program) (l : Launch) (e : Env) (R : Room) (s : State) (m : MethodId) (args : Array Value) (below : List Frame) (meth : Method) (c : Code) (H : Heap) (locs : List Loc) (cells slots mc ms : Nat) (g : JFrame) (rest : List Value) (Qa : State → Outcome → State → Prop) (XC : String → State → State → Prop) (free : Addr → Prop) : Prop :=
  ∀ T : State, T.heap = H → Stand p l e R s m args below meth c T locs cells slots →
    (∃ (v : Option Value) (st₀ t T' : State) (L : List Loc), st₀.heap = H ∧ Stand p l e R s m args below meth c T' (locs ++ L) (cells + mc) (slots + ms) ∧ (∀ q ∈ L, free q.base) ∧ T'.heap = t.heap ∧ T'.vm = t.vm ∧ Qa st₀ (.returned v) t ∧
      Goes p e below T g T' { g with pc := g.pc + 3, stack := v.toList ++ rest }) ∨
    (∃ (q : Addr) (st₀ t T' : State) (L : List Loc) (E : String) (ce : Cell), st₀.heap = H ∧ Stand p l e R s m args below meth c T' (locs ++ L) (cells + mc) (slots + ms) ∧ (∀ z ∈ L, free z.base) ∧ T'.heap = t.heap ∧ T'.vm = t.vm ∧ XC E st₀ t ∧ t.heap[q]? = some ce ∧ ce.vm = .none ∧ s.vm.findClass E = some ce.cls ∧
      Steps p.tables e below (T.setTop g) ((T'.setTop { g with stack := rest }).pushFrame (.throwing q)))
def vx_X {S : Type} (px : S → Prop) (B : String → S → State → Prop) (A : Nat → Prop) : String → State → State → Prop := fun E st t => ∃ u : S, px u ∧ B E u t ∧ va_F A st t
section Runs
variable {p : Program} {l : Launch} {e : Env} {R : Room} {s : State} {m : MethodId} {args : Array Value} {below : List Frame} {meth : Method} {c : Code} {H : Heap} {locs : List Loc} {cells slots : Nat}
variable {y : MethodName} {bytes cc : ByteArray} {maxL nL mc ms n index : Nat} {ret : Option FieldType} {ws : List Cond} {rm : Room} {Pc : Array Value → State → Prop} {Qc : Array Value → State → Outcome → State → Prop} {XC : String → State → State → Prop} {free : Addr → Prop} {Ts : List Cond} {own C : String} {b : Addr} {As rest : List Value} {g : JFrame}
theorem vx_callBack (cb : CallB R s args own index y bytes maxL ret ws rm mc ms n) (hM : vx_Met l y ws rm Pc Qc XC mc ms free) (hbl : FrameBlind Pc) : vx_Back l R p e below s args y 3 8 (PreOf R mc ms Pc) (PostOf Qc mc ms free) (vx_Post XC mc ms free) := by
  obtain ⟨hrc, hrs, hfr, hlo, hws, hcw, -, hini, -⟩ := cb
  exact vx_back (bytes := bytes) (maxL := maxL) (ret := ret) hM hbl hrc hrs hfr hlo hws hcw (fun a' U hW => word_at hW (Or.inl (by first | rfl | simp [Cond.onTables, Cond.keeps, Cond.steady])) hini)
theorem vx_runV (S : CallFix p m c cc nL s args Ts own) (hM : vx_Met l y ws rm Pc Qc XC mc ms free) (cw : CallW R s args own C index y bytes maxL ret ws rm mc ms n) (hp : PreV s H C b Pc As)
    (hg : g.method = m) (hn : As.length = n) (hsize : g.locals.size = nL) (hstack : g.stack = As.reverse ++ .ref b :: rest) (hW : 2 * g.monitorRoom + (rest.map fun v => v.category).sum ≤ 8) (hdg : decode cc g.pc = .ok (.invokevirtual index, 3)) (hf : cells + mc ≤ R.cells ∧ slots + ms ≤ R.slots) :
    vx_Run p l e R s m args below meth c H locs cells slots mc ms g rest (Qc (Value.ref b :: As).toArray) XC free := by
  have hK : vx_Back l R p e below s args y 3 8 (PreOf R mc ms Pc) (PostOf Qc mc ms free) (vx_Post XC mc ms free) := vx_callBack cw.1 hM hp.1
  obtain ⟨⟨-, -, -, -, -, -, hcode, -, hy, hlen, hl⟩, hin, hse⟩ := cw
  obtain ⟨hx, hb, hml, ho, -⟩ := S
  obtain ⟨-, ⟨cellB, hcB, hoB, hclB⟩, hPc⟩ := hp
  intro T hT X
  rcases vx_callV X hx (C := C) (bytes := bytes) (maxL := maxL) (ret := ret) ho hl hin hse hcode hy hK (by rw [hT]; exact hcB) hoB hclB hg (hsize.trans hml.symm) (argsL := As) (rest := rest) (fun sig h => hn.trans (hlen sig h)) hstack hW (by rw [hb]; exact hdg)
    (fun vm₁ hW₁ => ⟨hf.1, hf.2, hPc (T.setVm vm₁) hT hW₁⟩) with ⟨v, vm₁, ⟨U', l2, c2, s2⟩, hW₁, X', ⟨g', mk, t, L, e1, e2, hq, h1, hL, h2, h3⟩, st⟩ | ⟨q, vm₁, ⟨U', l2, c2, s2⟩, hW₁, X', ⟨g', mk, t, L, E, ce, e1, e2, hq, hce, hcv, hcl, h1, hL, h2, h3⟩, st⟩
  · dsimp only [Pt.U, Pt.locs, Pt.cells, Pt.slots] at X' e1 e2 h1 h2 h3 st
    subst h1; subst h2; subst h3
    exact Or.inl ⟨v, (T.setVm vm₁).calling g' mk (Value.ref b :: As).toArray, t, U', L, hT, X', hL, e1, e2, hq, st⟩
  · dsimp only [Pt.U, Pt.locs, Pt.cells, Pt.slots] at X' e1 e2 h1 h2 h3 st hcl
    subst h1; subst h2; subst h3
    exact Or.inr ⟨q, (T.setVm vm₁).calling g' mk (Value.ref b :: As).toArray, t, U', L, E, ce, hT, X', hL, e1, e2, hq, hce, hcv, vx_cls hW₁ hcl, st⟩
theorem vx_runS (S : CallFix p m c cc nL s args Ts own) (hM : vx_Met l y ws rm Pc Qc XC mc ms free) (cw : CallB R s args own index y bytes maxL ret ws rm mc ms n ∧ (Cond.static y).before args s = true) (hp : PreS s H Pc As)
    (hg : g.method = m) (hn : As.length = n) (hsize : g.locals.size = nL) (hstack : g.stack = As.reverse ++ rest) (hW : 2 * g.monitorRoom + (rest.map fun v => v.category).sum ≤ 8) (hdg : decode cc g.pc = .ok (.invokestatic index, 3)) (hf : cells + mc ≤ R.cells ∧ slots + ms ≤ R.slots) :
    vx_Run p l e R s m args below meth c H locs cells slots mc ms g rest (Qc As.toArray) XC free := by
  have hK : vx_Back l R p e below s args y 3 8 (PreOf R mc ms Pc) (PostOf Qc mc ms free) (vx_Post XC mc ms free) := vx_callBack cw.1 hM hp.1
  obtain ⟨⟨-, -, -, -, -, -, hcode, hini, hy, hlen, hl⟩, hstt⟩ := cw
  obtain ⟨hx, hb, hml, ho, -⟩ := S
  intro T hT X
  rcases vx_callS X hx (bytes := bytes) (maxL := maxL) (ret := ret) ho hl hstt hini hcode hy hK hg (hsize.trans hml.symm) (argsL := As) (rest := rest) (fun sig h => hn.trans (hlen sig h)) hstack hW (by rw [hb]; exact hdg)
    (fun vm₁ hW₁ => ⟨hf.1, hf.2, hp.2 (T.setVm vm₁) hT hW₁⟩) with ⟨v, vm₁, ⟨U', l2, c2, s2⟩, hW₁, X', ⟨g', mk, t, L, e1, e2, hq, h1, hL, h2, h3⟩, st⟩ | ⟨q, vm₁, ⟨U', l2, c2, s2⟩, hW₁, X', ⟨g', mk, t, L, E, ce, e1, e2, hq, hce, hcv, hcl, h1, hL, h2, h3⟩, st⟩
  · dsimp only [Pt.U, Pt.locs, Pt.cells, Pt.slots] at X' e1 e2 h1 h2 h3 st
    subst h1; subst h2; subst h3
    exact Or.inl ⟨v, (T.setVm vm₁).calling g' mk As.toArray, t, U', L, hT, X', hL, e1, e2, hq, st⟩
  · dsimp only [Pt.U, Pt.locs, Pt.cells, Pt.slots] at X' e1 e2 h1 h2 h3 st hcl
    subst h1; subst h2; subst h3
    exact Or.inr ⟨q, (T.setVm vm₁).calling g' mk As.toArray, t, U', L, E, ce, hT, X', hL, e1, e2, hq, hce, hcv, vx_cls hW₁ hcl, st⟩
end Runs
section Rows
variable {p : Program} {l : Launch} {e : Env} {R : Room} {s : State} {m : MethodId} {args : Array Value} {below : List Frame} {meth : Method} {c : Code} {H : Heap} {locs : List Loc} {cells slots : Nat} {Q : State → Prop}
variable {mc ms : Nat} {free : Addr → Prop} {A0 A1 : Nat → Prop} {H0 : Heap} {a : Array Value} {pc : Nat} {ls : Array Slot} {st0 rest : List Value}
theorem vx_keep {st₀ t T' : State} {L : List Loc} (h0 : st₀.heap = H) (e1 : T'.heap = t.heap) (hS : va_S A0 H0 H locs) (hA : ∀ q, q < H.size → A1 q → A0 q) (hf : ∀ q, free q → A0 q) (hL : ∀ q ∈ L, free q.base) (hF : va_F A1 st₀ t) :
    H.size ≤ T'.heap.size ∧ (∀ q : Nat, q < H.size → ¬ A1 q → T'.heap[q]? = H[q]?) ∧ va_S A0 H0 T'.heap (locs ++ L) := by
  obtain ⟨hz, hk⟩ := hF
  rw [h0] at hz hk
  exact ⟨by rw [e1]; exact hz, fun q h1 h2 => by rw [e1]; exact hk q h1 h2,
    ⟨Nat.le_trans hS.1 (by rw [e1]; exact hz), fun q h1 h2 => by rw [e1, hk q (Nat.lt_of_lt_of_le h1 hS.1) (fun z => h2 (hA q (Nat.lt_of_lt_of_le h1 hS.1) z))]; exact hS.2.1 q h1 h2, fun q hq => by
      rcases List.mem_append.mp hq with h | h
      · exact hS.2.2 q h
      · exact hf _ (hL q h)⟩⟩
theorem vx_calli {S SX : Type} {post : Int32 → S → Prop} {px : SX → Prop} {B : S → State → Prop} {BX : String → SX → State → Prop} {AX : Nat → Prop} (hr : vx_Run p l e R s m args below meth c H locs cells slots mc ms (F0 m pc ls st0) rest (va_Qi post B A1 a) (vx_X px BX AX) free) (hS : va_S A0 H0 H locs) (hA : ∀ q, q < H.size → A1 q → A0 q) (hf : ∀ q, free q → A0 q) (hAX : ∀ q, q < H.size → AX q → A0 q)
    (kx : ∀ (E : String) (ce : Cell) (q9 : Addr) (u : SX) (t : State) (H1 : Heap) (locs1 : List Loc), t.heap = H1 → s.vm.Alike t.vm → px u → BX E u t → H.size ≤ H1.size → (∀ q : Nat, q < H.size → ¬ AX q → H1[q]? = H[q]?) → va_S A0 H0 H1 locs1 → H1[q9]? = some ce → ce.vm = .none → s.vm.findClass E = some ce.cls → vx_W p l e R s m args below meth c H1 locs1 (cells + mc) (slots + ms) Q (F0 m pc ls rest) q9)
    (kk : ∀ (r : Int32) (u : S) (t : State) (H1 : Heap) (locs1 : List Loc), t.heap = H1 → s.vm.Alike t.vm → post r u → B u t → H.size ≤ H1.size → (∀ q : Nat, q < H.size → ¬ A1 q → H1[q]? = H[q]?) → va_S A0 H0 H1 locs1 → W p l e R s m args below meth c H1 locs1 (cells + mc) (slots + ms) Q (F0 m (pc + 3) ls (.int r :: rest))) : W p l e R s m args below meth c H locs cells slots Q (F0 m pc ls st0) := by
  intro T hT X
  rcases hr T hT X with ⟨v, st₀, t, T', L, h0, X', hL, e1, e2, ⟨⟨r, u, hv, hp, hb⟩, hF⟩, st⟩ | ⟨q, st₀, t, T', L, E, ce, h0, X', hL, e1, e2, ⟨u, hp, hb, hF⟩, hce, hcv, hcl, st⟩
  · cases hv
    obtain ⟨k1, k2, k3⟩ := vx_keep h0 e1 hS hA hf hL hF
    obtain ⟨t2, a1, b1⟩ := kk r u t T'.heap (locs ++ L) e1.symm (by rw [← e2]; exact X'.warmed.alike) hp hb k1 k2 k3 T' rfl X'
    exact ⟨t2, st t2 a1, b1⟩
  · obtain ⟨k1, k2, k3⟩ := vx_keep h0 e1 hS hAX hf hL hF
    obtain ⟨t2, a1, b1⟩ := kx E ce q u t T'.heap (locs ++ L) e1.symm (by rw [← e2]; exact X'.warmed.alike) hp hb k1 k2 k3 (by rw [e1]; exact hce) hcv hcl T' rfl X'
    exact ⟨t2, st.trans a1, b1⟩
theorem vx_calll {S SX : Type} {post : Int64 → S → Prop} {px : SX → Prop} {B : S → State → Prop} {BX : String → SX → State → Prop} {AX : Nat → Prop} (hr : vx_Run p l e R s m args below meth c H locs cells slots mc ms (F0 m pc ls st0) rest (va_Ql post B A1 a) (vx_X px BX AX) free) (hS : va_S A0 H0 H locs) (hA : ∀ q, q < H.size → A1 q → A0 q) (hf : ∀ q, free q → A0 q) (hAX : ∀ q, q < H.size → AX q → A0 q)
    (kx : ∀ (E : String) (ce : Cell) (q9 : Addr) (u : SX) (t : State) (H1 : Heap) (locs1 : List Loc), t.heap = H1 → s.vm.Alike t.vm → px u → BX E u t → H.size ≤ H1.size → (∀ q : Nat, q < H.size → ¬ AX q → H1[q]? = H[q]?) → va_S A0 H0 H1 locs1 → H1[q9]? = some ce → ce.vm = .none → s.vm.findClass E = some ce.cls → vx_W p l e R s m args below meth c H1 locs1 (cells + mc) (slots + ms) Q (F0 m pc ls rest) q9)
    (kk : ∀ (r : Int64) (u : S) (t : State) (H1 : Heap) (locs1 : List Loc), t.heap = H1 → s.vm.Alike t.vm → post r u → B u t → H.size ≤ H1.size → (∀ q : Nat, q < H.size → ¬ A1 q → H1[q]? = H[q]?) → va_S A0 H0 H1 locs1 → W p l e R s m args below meth c H1 locs1 (cells + mc) (slots + ms) Q (F0 m (pc + 3) ls (.long r :: rest))) : W p l e R s m args below meth c H locs cells slots Q (F0 m pc ls st0) := by
  intro T hT X
  rcases hr T hT X with ⟨v, st₀, t, T', L, h0, X', hL, e1, e2, ⟨⟨r, u, hv, hp, hb⟩, hF⟩, st⟩ | ⟨q, st₀, t, T', L, E, ce, h0, X', hL, e1, e2, ⟨u, hp, hb, hF⟩, hce, hcv, hcl, st⟩
  · cases hv
    obtain ⟨k1, k2, k3⟩ := vx_keep h0 e1 hS hA hf hL hF
    obtain ⟨t2, a1, b1⟩ := kk r u t T'.heap (locs ++ L) e1.symm (by rw [← e2]; exact X'.warmed.alike) hp hb k1 k2 k3 T' rfl X'
    exact ⟨t2, st t2 a1, b1⟩
  · obtain ⟨k1, k2, k3⟩ := vx_keep h0 e1 hS hAX hf hL hF
    obtain ⟨t2, a1, b1⟩ := kx E ce q u t T'.heap (locs ++ L) e1.symm (by rw [← e2]; exact X'.warmed.alike) hp hb k1 k2 k3 (by rw [e1]; exact hce) hcv hcl T' rfl X'
    exact ⟨t2, st.trans a1, b1⟩
theorem vx_callf {S SX : Type} {post : UInt32 → S → Prop} {px : SX → Prop} {B : S → State → Prop} {BX : String → SX → State → Prop} {AX : Nat → Prop} (hr : vx_Run p l e R s m args below meth c H locs cells slots mc ms (F0 m pc ls st0) rest (va_Qf post B A1 a) (vx_X px BX AX) free) (hS : va_S A0 H0 H locs) (hA : ∀ q, q < H.size → A1 q → A0 q) (hf : ∀ q, free q → A0 q) (hAX : ∀ q, q < H.size → AX q → A0 q)
    (kx : ∀ (E : String) (ce : Cell) (q9 : Addr) (u : SX) (t : State) (H1 : Heap) (locs1 : List Loc), t.heap = H1 → s.vm.Alike t.vm → px u → BX E u t → H.size ≤ H1.size → (∀ q : Nat, q < H.size → ¬ AX q → H1[q]? = H[q]?) → va_S A0 H0 H1 locs1 → H1[q9]? = some ce → ce.vm = .none → s.vm.findClass E = some ce.cls → vx_W p l e R s m args below meth c H1 locs1 (cells + mc) (slots + ms) Q (F0 m pc ls rest) q9)
    (kk : ∀ (r : UInt32) (u : S) (t : State) (H1 : Heap) (locs1 : List Loc), t.heap = H1 → s.vm.Alike t.vm → post r u → B u t → H.size ≤ H1.size → (∀ q : Nat, q < H.size → ¬ A1 q → H1[q]? = H[q]?) → va_S A0 H0 H1 locs1 → W p l e R s m args below meth c H1 locs1 (cells + mc) (slots + ms) Q (F0 m (pc + 3) ls (.float r :: rest))) : W p l e R s m args below meth c H locs cells slots Q (F0 m pc ls st0) := by
  intro T hT X
  rcases hr T hT X with ⟨v, st₀, t, T', L, h0, X', hL, e1, e2, ⟨⟨r, u, hv, hp, hb⟩, hF⟩, st⟩ | ⟨q, st₀, t, T', L, E, ce, h0, X', hL, e1, e2, ⟨u, hp, hb, hF⟩, hce, hcv, hcl, st⟩
  · cases hv
    obtain ⟨k1, k2, k3⟩ := vx_keep h0 e1 hS hA hf hL hF
    obtain ⟨t2, a1, b1⟩ := kk r u t T'.heap (locs ++ L) e1.symm (by rw [← e2]; exact X'.warmed.alike) hp hb k1 k2 k3 T' rfl X'
    exact ⟨t2, st t2 a1, b1⟩
  · obtain ⟨k1, k2, k3⟩ := vx_keep h0 e1 hS hAX hf hL hF
    obtain ⟨t2, a1, b1⟩ := kx E ce q u t T'.heap (locs ++ L) e1.symm (by rw [← e2]; exact X'.warmed.alike) hp hb k1 k2 k3 (by rw [e1]; exact hce) hcv hcl T' rfl X'
    exact ⟨t2, st.trans a1, b1⟩
theorem vx_calld {S SX : Type} {post : UInt64 → S → Prop} {px : SX → Prop} {B : S → State → Prop} {BX : String → SX → State → Prop} {AX : Nat → Prop} (hr : vx_Run p l e R s m args below meth c H locs cells slots mc ms (F0 m pc ls st0) rest (va_Qd post B A1 a) (vx_X px BX AX) free) (hS : va_S A0 H0 H locs) (hA : ∀ q, q < H.size → A1 q → A0 q) (hf : ∀ q, free q → A0 q) (hAX : ∀ q, q < H.size → AX q → A0 q)
    (kx : ∀ (E : String) (ce : Cell) (q9 : Addr) (u : SX) (t : State) (H1 : Heap) (locs1 : List Loc), t.heap = H1 → s.vm.Alike t.vm → px u → BX E u t → H.size ≤ H1.size → (∀ q : Nat, q < H.size → ¬ AX q → H1[q]? = H[q]?) → va_S A0 H0 H1 locs1 → H1[q9]? = some ce → ce.vm = .none → s.vm.findClass E = some ce.cls → vx_W p l e R s m args below meth c H1 locs1 (cells + mc) (slots + ms) Q (F0 m pc ls rest) q9)
    (kk : ∀ (r : UInt64) (u : S) (t : State) (H1 : Heap) (locs1 : List Loc), t.heap = H1 → s.vm.Alike t.vm → post r u → B u t → H.size ≤ H1.size → (∀ q : Nat, q < H.size → ¬ A1 q → H1[q]? = H[q]?) → va_S A0 H0 H1 locs1 → W p l e R s m args below meth c H1 locs1 (cells + mc) (slots + ms) Q (F0 m (pc + 3) ls (.double r :: rest))) : W p l e R s m args below meth c H locs cells slots Q (F0 m pc ls st0) := by
  intro T hT X
  rcases hr T hT X with ⟨v, st₀, t, T', L, h0, X', hL, e1, e2, ⟨⟨r, u, hv, hp, hb⟩, hF⟩, st⟩ | ⟨q, st₀, t, T', L, E, ce, h0, X', hL, e1, e2, ⟨u, hp, hb, hF⟩, hce, hcv, hcl, st⟩
  · cases hv
    obtain ⟨k1, k2, k3⟩ := vx_keep h0 e1 hS hA hf hL hF
    obtain ⟨t2, a1, b1⟩ := kk r u t T'.heap (locs ++ L) e1.symm (by rw [← e2]; exact X'.warmed.alike) hp hb k1 k2 k3 T' rfl X'
    exact ⟨t2, st t2 a1, b1⟩
  · obtain ⟨k1, k2, k3⟩ := vx_keep h0 e1 hS hAX hf hL hF
    obtain ⟨t2, a1, b1⟩ := kx E ce q u t T'.heap (locs ++ L) e1.symm (by rw [← e2]; exact X'.warmed.alike) hp hb k1 k2 k3 (by rw [e1]; exact hce) hcv hcl T' rfl X'
    exact ⟨t2, st.trans a1, b1⟩
theorem vx_callv {S SX : Type} {post : S → Prop} {px : SX → Prop} {B : S → State → Prop} {BX : String → SX → State → Prop} {AX : Nat → Prop} (hr : vx_Run p l e R s m args below meth c H locs cells slots mc ms (F0 m pc ls st0) rest (va_Qv post B A1 a) (vx_X px BX AX) free) (hS : va_S A0 H0 H locs) (hA : ∀ q, q < H.size → A1 q → A0 q) (hf : ∀ q, free q → A0 q) (hAX : ∀ q, q < H.size → AX q → A0 q)
    (kx : ∀ (E : String) (ce : Cell) (q9 : Addr) (u : SX) (t : State) (H1 : Heap) (locs1 : List Loc), t.heap = H1 → s.vm.Alike t.vm → px u → BX E u t → H.size ≤ H1.size → (∀ q : Nat, q < H.size → ¬ AX q → H1[q]? = H[q]?) → va_S A0 H0 H1 locs1 → H1[q9]? = some ce → ce.vm = .none → s.vm.findClass E = some ce.cls → vx_W p l e R s m args below meth c H1 locs1 (cells + mc) (slots + ms) Q (F0 m pc ls rest) q9)
    (kk : ∀ (u : S) (t : State) (H1 : Heap) (locs1 : List Loc), t.heap = H1 → s.vm.Alike t.vm → post u → B u t → H.size ≤ H1.size → (∀ q : Nat, q < H.size → ¬ A1 q → H1[q]? = H[q]?) → va_S A0 H0 H1 locs1 → W p l e R s m args below meth c H1 locs1 (cells + mc) (slots + ms) Q (F0 m (pc + 3) ls (rest))) : W p l e R s m args below meth c H locs cells slots Q (F0 m pc ls st0) := by
  intro T hT X
  rcases hr T hT X with ⟨v, st₀, t, T', L, h0, X', hL, e1, e2, ⟨⟨u, hv, hp, hb⟩, hF⟩, st⟩ | ⟨q, st₀, t, T', L, E, ce, h0, X', hL, e1, e2, ⟨u, hp, hb, hF⟩, hce, hcv, hcl, st⟩
  · cases hv
    obtain ⟨k1, k2, k3⟩ := vx_keep h0 e1 hS hA hf hL hF
    obtain ⟨t2, a1, b1⟩ := kk u t T'.heap (locs ++ L) e1.symm (by rw [← e2]; exact X'.warmed.alike) hp hb k1 k2 k3 T' rfl X'
    exact ⟨t2, st t2 a1, b1⟩
  · obtain ⟨k1, k2, k3⟩ := vx_keep h0 e1 hS hAX hf hL hF
    obtain ⟨t2, a1, b1⟩ := kx E ce q u t T'.heap (locs ++ L) e1.symm (by rw [← e2]; exact X'.warmed.alike) hp hb k1 k2 k3 (by rw [e1]; exact hce) hcv hcl T' rfl X'
    exact ⟨t2, st.trans a1, b1⟩
/-- caught by the row x of this method's table; the rows ahead don't take it -/
theorem vx_catch {own name : String} {E : String} {ce : Cell} {q : Addr} (hown : s.vm.findClass own = some m.cls) (pre : List ExceptionTableEntry) (x : ExceptionTableEntry) (suf : List ExceptionTableEntry) (hsplit : c.exceptionTable.toList = pre ++ x :: suf)
    (hpass : ∀ z ∈ pre, covers z pc = false ∨ (z.catchType ≠ 0 ∧ ∃ nm : String, (Cond.classLink own z.catchType nm).before args s = true ∧ va_Nc E nm s)) (hx : covers x pc = true) (h0 : x.catchType ≠ 0)
    (hlink : (Cond.classLink own x.catchType name).before args s = true) (hcast : (Cond.castable E name).before args s = true) (hcell : H[q]? = some ce) (hv : ce.vm = .none) (hcl : s.vm.findClass E = some ce.cls)
    (kk : W p l e R s m args below meth c H locs cells slots Q (F0 m x.handlerPc ls [.ref q])) : vx_W p l e R s m args below meth c H locs cells slots Q (F0 m pc ls rest) q := by
  intro T hT X
  have hpl : e.platform.magicAccessors = ({} : Platform).magicAccessors := by rw [X.admits.platform]
  obtain ⟨c3, c4, hc3, hc4, hasg⟩ := Cond.castable_spec hcast
  cases Option.some.inj (hc3.symm.trans hcl)
  obtain ⟨c5, hc5, hcl5⟩ := Cond.classLink_spec hown hlink e.platform hpl
  cases Option.some.inj (hc4.symm.trans hc5)
  obtain ⟨vm', X', st⟩ := X.thenCaughtThrough q (g := F0 m pc ls rest) rfl (Steps.refl _) (by rw [hT]; exact hcell) (by rw [hv]; rfl) (by obtain ⟨k9, h9, -⟩ := Vm.findClass_spec hcl; exact ⟨k9, h9⟩) pre x suf hsplit
    (fun z hz => by
      rcases hpass z hz with h | ⟨hz0, nm, hl1, hn1⟩
      · exact Or.inl h
      · obtain ⟨c6, hc6, hcl6⟩ := Cond.classLink_spec hown hl1 e.platform hpl
        obtain ⟨a8, b8, h1, h2, h3⟩ := hn1
        cases Option.some.inj (h1.symm.trans hcl)
        cases Option.some.inj (h2.symm.trans hc6)
        exact Or.inr ⟨hz0, _, hcl6, h3⟩) hx (Or.inr ⟨h0, c4, hcl5, hasg⟩)
  obtain ⟨t, a1, b1⟩ := kk (T.setVm vm') hT X'
  exact ⟨t, st.trans a1, b1⟩
end Rows
section Ends
variable {p : Program} {l : Launch} {e : Env} {R : Room} {s : State} {m : MethodId} {args : Array Value} {below : List Frame} {meth : Method} {c : Code} {H : Heap} {locs : List Loc} {cells slots : Nat} {Q : State → Prop}
variable {mc ms : Nat} {free : Addr → Prop} {A0 A1 : Nat → Prop} {H0 : Heap} {a : Array Value} {ls : Array Slot} {st0 rest : List Value}
variable {Qc : Array Value → State → Outcome → State → Prop} {XC : String → State → State → Prop}
/-- what a body that may throw owes at its end -/
def vx_MQ (below : List Frame) (Qc : Array Value → State → Outcome → State → Prop) (XC : String → State → State → Prop) (a : Array Value) (s : State) (mc ms : Nat) (free : Addr → Prop) : State → Prop := fun t =>
  ∃ o, t.status = .running ∧ Ended t below o ∧ vx_Q Qc XC mc ms free a s o t
theorem vx_ret {g : JFrame} {mc ms : Nat} (k : W p l e R s m args below meth c H locs cells slots (MQ below Qc args s mc ms free) g) : W p l e R s m args below meth c H locs cells slots (vx_MQ below Qc XC args s mc ms free) g := by
  intro T hT X
  obtain ⟨t, a1, o, b1, b2, b3, b4⟩ := k T hT X
  exact ⟨t, a1, o, b1, b2, Or.inl ⟨b3, b4⟩⟩
/-- not caught here: it goes on to the caller -/
theorem vx_widen {g : JFrame} {q : Addr} {k n : Nat} (h1 : cells ≤ k) (h2 : slots ≤ n) (kk : vx_W p l e R s m args below meth c H locs k n Q g q) : vx_W p l e R s m args below meth c H locs cells slots Q g q := fun T hT X => kk T hT (stand_widen X h1 h2)
theorem vx_out {pc : Nat} {E : String} {ce : Cell} {q : Addr} {mc ms : Nat} (hout : ∀ x ∈ c.exceptionTable.toList, covers x pc = false) (hlocks : meth.locks = false) (hcell : H[q]? = some ce) (hv : ce.vm = .none) (hcl : s.vm.findClass E = some ce.cls)
    (hx : ∀ t : State, t.heap = H → s.vm.Alike t.vm → XC E s t) (hf : ∀ z ∈ locs, free z.base) (hc : cells ≤ mc) (hs : slots ≤ ms) :
    vx_W p l e R s m args below meth c H locs cells slots (vx_MQ below Qc XC args s mc ms free) (F0 m pc ls rest) q := by
  intro T hT X
  obtain ⟨st1, hrun, hend, hW, hsm⟩ := X.leaveThrown q (g := F0 m pc ls rest) rfl rfl rfl hout hlocks
  have hcell9 : (T.setFrames (.throwing q :: below)).heap[q]? = some ce := by
    show T.heap[q]? = some ce
    rw [hT]; exact hcell
  exact ⟨_, st1, .threw q, hrun, hend, Or.inr ⟨q, rfl, E, ce, locs, hx _ hT hW.alike, hcell9, hv, hcl, hW, hsm.mono hc hs, hf⟩⟩
theorem vx_frame {U : State} {k n : Nat} (h : s.sameButNew ({ U with vm := s.vm } : State) locs k n) : s.heap.size ≤ U.heap.size ∧ ∀ q : Nat, q < s.heap.size → (∀ z ∈ locs, z.base ≠ q) → U.heap[q]? = s.heap[q]? := by
  obtain ⟨-, h2, -, -, -, h6⟩ := h
  refine ⟨h2, fun q hq hz => ?_⟩
  obtain ⟨c9, e1, e2, e3, e4⟩ := h6 q _ (Array.getElem?_eq_getElem hq)
  have hs : c9.slots = (s.heap[q]).slots := Array.ext_getElem? fun i => e4 i fun hm => hz _ hm rfl
  have h9 : c9 = s.heap[q] := by
    rw [hs] at e2
    exact e2
  have e5 : U.heap[q]? = some c9 := e1
  rw [e5, h9, Array.getElem?_eq_getElem hq]
/-- the words of a throw but the four that speak of the heap -/
def vx_no (w : Cond) : Bool := decide (w ≠ .isRef (.static Bundle.tN "UNASSIGNED_STACK" Bundle.steD)) && decide (w ≠ .isRef (.static Bundle.tN "SUPPRESSED_SENTINEL" Bundle.listD)) && decide (w ≠ .laysStatic Bundle.tN "UNASSIGNED_STACK" Bundle.steD) && decide (w ≠ .laysStatic Bundle.tN "SUPPRESSED_SENTINEL" Bundle.listD)
def vx_at0 (own : String) (ic : Nat) (X : String) (names : List String) : List Cond := (Bundle.ownAtoms0 own ic X names).filter vx_no
def vx_atS (own : String) (ic : Nat) (X : String) (names : List String) : List Cond := (Bundle.ownAtoms own ic X names).filter vx_no
/-- a word that the tables alone decide, or a good one -/
def vx_ot (w : Cond) : Bool := w.onTables || goodWord w
theorem vx_ot_at {args a' : Array Value} {s U : State} {w : Cond} (hW : s.WarmedH U.vm) (hvm : s.vm = U.vm) (hg : vx_ot w = true) (h : w.before args s = true) : w.before a' U = true := by
  simp only [vx_ot, Bool.or_eq_true] at hg
  rcases hg with hg | hg
  · exact va_tabs hg hvm h
  · exact word_at hW (good_of_word hg) h
/-- a list's words: the good ones out of the method's own list, the others by premises of their own -/
theorem vx_hat {args : Array Value} {s : State} {L B : List Cond} (h1 : ∀ w ∈ L.filter goodWord, w.before args s = true) (h2 : ∀ w ∈ L.filter (fun w => !goodWord w), w ∈ B) (h3 : ∀ w ∈ B, w.before args s = true) : ∀ w ∈ L, w.before args s = true := by
  intro w hw
  by_cases g : goodWord w = true
  · exact h1 w (List.mem_filter.mpr ⟨hw, g⟩)
  · refine h3 w (h2 w (List.mem_filter.mpr ⟨hw, ?_⟩))
    show (!goodWord w) = true
    cases hgw : goodWord w
    · rfl
    · exact absurd hgw g
theorem vx_c {args : Array Value} {s : State} {w : Cond} {B : List Cond} (h : w.before args s = true) (t : ∀ w ∈ B, w.before args s = true) : ∀ w' ∈ w :: B, w'.before args s = true := fun w' h' => (List.mem_cons.mp h').elim (fun e => by rw [e]; exact h) (t w')
theorem vx_n {args : Array Value} {s : State} : ∀ w ∈ ([] : List Cond), w.before args s = true := fun _ h => nomatch h
theorem vx_own {args : Array Value} {s : State} {L : List Cond} (h1 : ∀ w ∈ L.filter vx_no, w.before args s = true)
    (hU : (Cond.isRef (.static Bundle.tN "UNASSIGNED_STACK" Bundle.steD)).before args s = true) (hN : (Cond.isRef (.static Bundle.tN "SUPPRESSED_SENTINEL" Bundle.listD)).before args s = true)
    (lU : (Cond.laysStatic Bundle.tN "UNASSIGNED_STACK" Bundle.steD).before args s = true) (lN : (Cond.laysStatic Bundle.tN "SUPPRESSED_SENTINEL" Bundle.listD).before args s = true) : ∀ w ∈ L, w.before args s = true := by
  intro w hw
  by_cases e1 : w = .isRef (.static Bundle.tN "UNASSIGNED_STACK" Bundle.steD)
  · rw [e1]; exact hU
  · by_cases e2 : w = .isRef (.static Bundle.tN "SUPPRESSED_SENTINEL" Bundle.listD)
    · rw [e2]; exact hN
    · by_cases e3 : w = .laysStatic Bundle.tN "UNASSIGNED_STACK" Bundle.steD
      · rw [e3]; exact lU
      · by_cases e4 : w = .laysStatic Bundle.tN "SUPPRESSED_SENTINEL" Bundle.listD
        · rw [e4]; exact lN
        · exact h1 w (List.mem_filter.mpr ⟨hw, by unfold vx_no; rw [decide_eq_true e1, decide_eq_true e2, decide_eq_true e3, decide_eq_true e4]; rfl⟩)
/-- where a static field lies, its class's statics cell in H -/
def vx_L (C n d : String) (A : Nat → Prop) (U : State) (H : Heap) : Prop := ∃ (c : ClassId) (k : Class) (i : Nat) (f : Field) (a : Nat) (cell : Cell), U.vm.findClass C = some c ∧ U.fieldFound? C n d = some (c, k, i, f) ∧ f.isStatic = true ∧ k.statics = some a ∧ H[a]? = some cell ∧ cell.vm.isStatics = true ∧ cell.cls = c ∧ f.slot < cell.slots.size ∧ k.staticTypes[f.slot]? = some f.type ∧ ¬ A a
theorem vx_L.moved {C n d : String} {A : Nat → Prop} {u U : State} {H : Heap} (hvm : u.vm.Alike U.vm) (h : vx_L C n d A u H) : vx_L C n d A U H := by
  obtain ⟨c, k, i, f, a, cell, h1, h2, h3, h4, h5, h6, h7, h8, h9, h10⟩ := h
  obtain ⟨k', hi', he⟩ := State.fieldFound?_setVm hvm h2
  exact ⟨c, k', i, f, a, cell, by rw [hvm.findClass]; exact h1, hi', h3, by rw [he]; exact h4, h5, h6, h7, h8, by rw [he]; exact h9, h10⟩
theorem vx_L.kept {C n d : String} {A : Nat → Prop} {U : State} {H H1 : Heap} (h : vx_L C n d A U H) (hq : ∀ a : Nat, a < H.size → ¬ A a → H1[a]? = H[a]?) : vx_L C n d A U H1 := by
  obtain ⟨c, k, i, f, a, cell, h1, h2, h3, h4, h5, h6, h7, h8, h9, h10⟩ := h
  exact ⟨c, k, i, f, a, cell, h1, h2, h3, h4, by rw [hq a (Array.getElem?_eq_some_iff.mp h5).1 h10]; exact h5, h6, h7, h8, h9, h10⟩
theorem vx_L.narrow {C n d : String} {A B : Nat → Prop} {U : State} {H : Heap} (h : vx_L C n d A U H) (hAB : ∀ q, B q → A q) : vx_L C n d B U H := by
  obtain ⟨c, k, i, f, a, cell, h1, h2, h3, h4, h5, h6, h7, h8, h9, h10⟩ := h
  exact ⟨c, k, i, f, a, cell, h1, h2, h3, h4, h5, h6, h7, h8, h9, fun z => h10 (hAB _ z)⟩
theorem vx_L.word {C n d : String} {A : Nat → Prop} {s : State} {args : Array Value} (h : vx_L C n d A s s.heap) : (Cond.laysStatic C n d).before args s = true := by
  obtain ⟨c, k, i, f, a, cell, h1, h2, h3, h4, h5, h6, h7, h8, h9, -⟩ := h
  show (Cond.laysStatic C n d).holds args s none s [] = true
  exact Cond.laysStatic_of h1 h2 h3 h4 h5 h6 h7 h8 h9
/-- .. and what it holds: null or some reference -/
def vx_Zq (C n d : String) (A : Nat → Prop) (U : State) (H : Heap) : Prop := va_Zq C n d A U H ∧ vx_L C n d A U H
theorem vx_Zq.moved {C n d : String} {A : Nat → Prop} {u U : State} {H : Heap} (hvm : u.vm.Alike U.vm) (h : vx_Zq C n d A u H) : vx_Zq C n d A U H := ⟨va_Zq.moved hvm h.1, vx_L.moved hvm h.2⟩
theorem vx_Zq.kept {C n d : String} {A : Nat → Prop} {U : State} {H H1 : Heap} (h : vx_Zq C n d A U H) (hq : ∀ a : Nat, a < H.size → ¬ A a → H1[a]? = H[a]?) : vx_Zq C n d A U H1 := ⟨va_Zq.kept h.1 hq, vx_L.kept h.2 hq⟩
theorem vx_Zq.narrow {C n d : String} {A B : Nat → Prop} {U : State} {H : Heap} (h : vx_Zq C n d A U H) (hAB : ∀ q, B q → A q) : vx_Zq C n d B U H := ⟨va_Zq.narrow h.1 hAB, vx_L.narrow h.2 hAB⟩
theorem vx_Zqof {args : Array Value} {s : State} {C n d : String} {A : Nat → Prop} (hl : (Cond.laysStatic C n d).before args s = true) (hini : (Cond.initialized C).before args s = true) (h : (Cond.isRef (.static C n d)).before args s = true) (hA : ∀ a : Nat, a < s.heap.size → ¬ A a) : vx_Zq C n d A s s.heap := by
  refine ⟨va_Zqof hl hini h hA, ?_⟩
  obtain ⟨c, k, i, f, a, cell, h1, h2, h3, h4, h5, h6, h7, h8, h9⟩ := Cond.laysStatic_spec hl
  exact ⟨c, k, i, f, a, cell, h1, h2, h3, h4, h5, h6, h7, h8, h9, hA a (Array.getElem?_eq_some_iff.mp h5).1⟩
theorem vx_isRef {C n d : String} {v : Value} {A : Nat → Prop} {s : State} {args : Array Value} (h : va_Z C n d v A s s.heap) (hv : v.isRef = true) : (Cond.isRef (.static C n d)).before args s = true := by
  obtain ⟨cf, kf, fi, f, a, cell, h1, h2, h3, h4, h5, h6, h7, -⟩ := h
  have he : (Term.static C n d).eval args s none [] s = some v := by
    simp [Term.eval, State.fieldNamed?, h1, h2, h4, h5, h6, h7]
  simp only [Cond.before, Cond.holds, Cond.value, he]
  cases v <;> simp_all [Value.isRef]
theorem vx_isRefq {C n d : String} {A : Nat → Prop} {s : State} {args : Array Value} (h : va_Zq C n d A s s.heap) : (Cond.isRef (.static C n d)).before args s = true := by
  rcases h with h | ⟨t, h⟩
  · exact vx_isRef h rfl
  · exact vx_isRef h rfl
/-- the same frame, seen from here: as if the method were called anew in this heap -/
theorem vx_rebase {T : State} (X : Stand p l e R s m args below meth c T locs cells slots) {R' : Room} (hf : R'.frames ≤ R.frames) (hl : R'.locals ≤ R.locals) (hc : cells + R'.cells ≤ R.cells) (hs : slots + R'.slots ≤ R.slots) :
    Stand p l e R' ((T.setVm s.vm).setFrames (.invoking m args :: below)) m args below meth c T [] 0 0 := by
  have htop : (T.setVm s.vm).topJava?.isSome := X.here.top
  have hF : ((T.setVm s.vm).setFrames (.invoking m args :: below)).frames = .invoking m args :: below := State.frames_setFrames _ (State.cur_lt_of_top htop)
  obtain ⟨g₀, hg0⟩ := Option.isSome_iff_exists.mp htop
  obtain ⟨r, hr⟩ := State.topJava?_eq_some.mp hg0
  have hl9 : e.platform.stackLimits (T.setVm s.vm).me = e.platform.stackLimits s.me := X.limits
  have hb9 : (T.setVm s.vm).me.stackBytes = s.me.stackBytes := X.bytes
  refine ⟨X.admits, X.cas, X.clock, hF, ?_, X.hears, X.method, X.code, X.here, X.tail, X.warmed, ?_, ?_, ?_⟩
  · have h := X.room
    have hU : ((T.setVm s.vm).setFrames (.invoking m args :: below)).localsInUse = s.localsInUse := by
      rw [State.localsInUse_invoking hF (meth := meth) (c := c) X.method X.code, State.localsInUse_invoking X.frames X.method X.code]
    simp only [State.hasRoom, Bool.and_eq_true, decide_eq_true_eq] at h ⊢
    obtain ⟨⟨⟨⟨h1, h2, h3, h4, h5, h6⟩, h7⟩, h8⟩, h9⟩ := h
    rw [X.frames, List.length_cons] at h2 h3
    have q1 := X.heapSize
    have q2 := X.used
    simp only [hF, hU, List.length_cons, State.stackLimits_setFrames, State.stackBytes_setFrames, hl9, hb9]
    refine ⟨⟨⟨⟨by omega, by omega, by omega, by omega, by omega, h6⟩, ?_⟩, ?_⟩, X.book⟩
    · show T.heap.size + R'.cells ≤ e.platform.maxCells
      omega
    · show T.slotsUsed + R'.slots ≤ e.platform.maxSlots
      omega
  · rw [State.stackLimits_setFrames]; rfl
  · rw [State.stackBytes_setFrames]; rfl
  · refine ⟨?_, Nat.le_refl _, Nat.le_refl _, ?_, ?_, fun a c9 h9 => ⟨c9, h9, rfl, rfl, fun _ _ => rfl⟩⟩
    · obtain ⟨t, ht, -⟩ := State.frames_cons hr
      show T.setVm s.vm = { ((T.setVm s.vm).setFrames (.invoking m args :: below)).setFrames (T.setVm s.vm).frames with heap := T.heap, slotsUsed := T.slotsUsed }
      rw [State.setFrames_setFrames, State.setFrames_self ht]
      rfl
    · show T.slotsUsed = T.slotsUsed + ((T.heap.toList.drop T.heap.size).map (·.slots.size)).sum
      rw [List.drop_eq_nil_of_le (Nat.le_of_eq Array.length_toList)]
      rfl
    · show ((T.heap.toList.drop T.heap.size).map (·.slots.size)).sum ≤ 0
      rw [List.drop_eq_nil_of_le (Nat.le_of_eq Array.length_toList)]
      exact Nat.le_refl _
/-- 'throw new E()': new; dup; invokespecial; athrow -/
theorem vx_throw0 {cc : ByteArray} {pc : Nat} (hexec : p.tables.exec = Jvm.exec) (hb : c.code = cc) (hl : l.stackTraces = false) {own cls : String} {names : List String} {ik ic mc ms : Nat} {A : Nat → Prop}
    (hown : s.vm.findClass own = some m.cls) (hcls : Bundle.fit cls = true) (hnames : ∀ n ∈ names, Bundle.fit n = true)
    (hk : (Cond.classLink own ik cls).before args s = true) (hini : (Cond.initialized cls).before args s = true) (hat : ∀ w ∈ vx_at0 own ic cls names, w.before args s = true)
    (hgood : ∀ w ∈ Cond.classLink own ik cls :: Cond.initialized cls :: vx_at0 own ic cls names, vx_ot w = true)
    (hU : vx_Zq Bundle.tN "UNASSIGNED_STACK" Bundle.steD A s s.heap) (hN : vx_Zq Bundle.tN "SUPPRESSED_SENTINEL" Bundle.listD A s s.heap) (hS : va_S A s.heap H locs) (hsize : ls.size = c.maxLocals)
    (d0 : decode cc pc = .ok (.new ik, 3)) (d3 : decode cc (pc + 3) = .ok (.dup, 1)) (d4 : decode cc (pc + 4) = .ok (.invokespecial ic, 3)) (d7 : decode cc (pc + 7) = .ok (.athrow, 1))
    (hout : ∀ x ∈ c.exceptionTable.toList, covers x (pc + 7) = false)
    (hRframes : names.length + 3 < R.frames) (hRlocals : (rest.map fun v => v.category).sum + (13 * (names.length + 1) + 42) ≤ R.locals) (hRcells : cells + 1 ≤ R.cells) (hRslots : slots + 6 ≤ R.slots) (hlocks : meth.locks = false)
    (hx : ∀ t : State, s.vm.Alike t.vm → H.size ≤ t.heap.size → (∀ q : Nat, q < H.size → t.heap[q]? = H[q]?) → XC cls s t)
    (hf : ∀ z ∈ locs, free z.base) (hc : cells + 1 ≤ mc) (hs : slots + 6 ≤ ms) :
    W p l e R s m args below meth c H locs cells slots (vx_MQ below Qc XC args s mc ms free) (F0 m pc ls rest) := by
  intro T hT X
  have htr : e.platform.stackTraces = false := (show e.platform.stackTraces = l.stackTraces by rw [X.admits.platform]).trans hl
  have Y := vx_rebase X (R' := { frames := R.frames, locals := R.locals, cells := 1, slots := 6 }) (Nat.le_refl _) (Nat.le_refl _) hRcells hRslots
  obtain ⟨s', hA⟩ : ∃ z, z = (T.setVm s.vm).setFrames (.invoking m args :: below) := ⟨_, rfl⟩
  rw [← hA] at Y
  have hvm : s'.vm = s.vm := by rw [hA]; rfl
  have hhp : s'.heap = H := by rw [hA]; exact hT
  have hW0 : s.WarmedH s'.vm := by rw [hvm]; exact State.WarmedH.refl s
  have hat' : ∀ w ∈ vx_at0 own ic cls names, w.before args s' = true := fun w hw => vx_ot_at hW0 hvm.symm (hgood w (List.mem_cons_of_mem _ (List.mem_cons_of_mem _ hw))) (hat w hw)
  have hk' : (Cond.classLink own ik cls).before args s' = true := vx_ot_at hW0 hvm.symm (hgood _ List.mem_cons_self) hk
  have hini' : (Cond.initialized cls).before args s' = true := vx_ot_at hW0 hvm.symm (hgood _ (List.mem_cons_of_mem _ List.mem_cons_self)) hini
  have hU' : vx_Zq Bundle.tN "UNASSIGNED_STACK" Bundle.steD A s' s'.heap := by rw [hhp]; exact vx_Zq.moved hW0.alike (hU.kept hS.2.1)
  have hN' : vx_Zq Bundle.tN "SUPPRESSED_SENTINEL" Bundle.listD A s' s'.heap := by rw [hhp]; exact vx_Zq.moved hW0.alike (hN.kept hS.2.1)
  have h : ∀ w ∈ Bundle.ownAtoms0 own ic cls names, w.before args s' = true := vx_own hat' (vx_isRefq hU'.1) (vx_isRefq hN'.1) hU'.2.word hN'.2.word
  have hown' : s'.vm.findClass own = some m.cls := by rw [hvm]; exact hown
  have hins : (Cond.instantiable cls 6).before args s' = true := h _ (by simp [Bundle.ownAtoms0])
  obtain ⟨vm₁, cX, kX, hfX, hkX, -, -, X₁, st1⟩ := Y.newCold hexec (own := own) (C := cls) (index := ik) (n := 6) hown' hk' hins hini'
    (g := F0 m pc ls rest) rfl (by rw [hb]; exact d0) (Nat.le_refl _) (Nat.le_refl _)
  generalize hT1 : (T.setVm vm₁).pushCell { cls := cX, slots := kX.instanceTypes.map defaultValue, vm := .none } = T1 at X₁ st1
  have hcat : (Value.ref T.heap.size).category = 1 := rfl
  have hcellA : T1.heap[T.heap.size]? = some (freshCell cX kX) := by rw [← hT1]; exact State.heap_pushCell_size _ _
  have d3' : decode c.code (pc + 3) = .ok (.dup, 1) := by rw [hb]; exact d3
  obtain ⟨U, hsteps, hrun, hend, hW, hsame, ce, hce, hO⟩ := X₁.ctorThrow0 hexec htr (own := own) (cls := cls) (names := names) (ic := ic) hown' hcls hnames h (fun x hx => nomatch hx) hfX hkX hcellA (by rw [hhp, hT]; exact Nat.le_refl _)
    (g := { method := m, pc := pc + 4, locals := ls, stack := .ref T.heap.size :: .ref T.heap.size :: rest, locked := none }) rfl hsize rfl rfl (rest := rest) rfl
    (by rw [hb]; exact d4) (by rw [hb]; exact d7) hout hRframes (by simp only [List.map_cons, List.sum_cons, hcat]; omega) hlocks
  obtain ⟨f1, f2⟩ := vx_frame hsame
  rw [hhp] at f1 f2
  have hWs : s.WarmedH U.vm := State.WarmedH.trans hW0 hW
  have hcl : s.vm.findClass cls = some ce.cls := by
    have h9 := hO.cls
    rw [hvm] at h9
    exact h9
  have hall : s.sameButNew ({ U with vm := s.vm } : State) locs mc ms := by
    subst hA
    obtain ⟨e1, e2⟩ := hsame
    rw [State.setFrames_setFrames] at e1
    have h2 : (T.setVm s.vm).sameButNew ({ U with vm := s.vm } : State) [] (0 + 1) (0 + 6) := ⟨e1, e2⟩
    have h3 := X.same.trans h2
    rw [List.append_nil] at h3
    exact h3.mono hc hs
  refine ⟨U, ?_, .threw T.heap.size, hrun, hend, Or.inr ⟨T.heap.size, rfl, cls, ce, locs, hx U hWs.alike f1 (fun q hq => f2 q hq (fun z hz => nomatch hz)), hce, hO.vm, hcl, hWs, hall, hf⟩⟩
  refine st1 _ ?_
  show Steps p.tables e below (T1.setTop { method := m, pc := pc + 3, locals := ls, stack := .ref T.heap.size :: rest, locked := none }) _
  jvm_step X₁.here [X₁.here.top, hexec, d3', Value.category]
  exact hsteps
/-- 'throw new E("text")': new; dup; ldc; invokespecial; athrow -/
theorem vx_throwS {cc : ByteArray} {pc : Nat} (hexec : p.tables.exec = Jvm.exec) (hb : c.code = cc) (hl : l.stackTraces = false) {own cls text : String} {names : List String} {ik is ic mc ms sa : Nat} {A : Nat → Prop}
    (hown : s.vm.findClass own = some m.cls) (hcls : Bundle.fit cls = true) (hnames : ∀ n ∈ names, Bundle.fit n = true)
    (hk : (Cond.classLink own ik cls).before args s = true) (hini : (Cond.initialized cls).before args s = true) (hstr : vk_R own is text sa s) (hat : ∀ w ∈ vx_atS own ic cls names, w.before args s = true)
    (hgood : ∀ w ∈ Cond.classLink own ik cls :: Cond.initialized cls :: vx_atS own ic cls names, vx_ot w = true)
    (hU : vx_Zq Bundle.tN "UNASSIGNED_STACK" Bundle.steD A s s.heap) (hN : vx_Zq Bundle.tN "SUPPRESSED_SENTINEL" Bundle.listD A s s.heap) (hS : va_S A s.heap H locs) (hsize : ls.size = c.maxLocals)
    (d0 : decode cc pc = .ok (.new ik, 3)) (d3 : decode cc (pc + 3) = .ok (.dup, 1)) (d4 : decode cc (pc + 4) = .ok (.ldc is, 2)) (d6 : decode cc (pc + 6) = .ok (.invokespecial ic, 3)) (d9 : decode cc (pc + 9) = .ok (.athrow, 1))
    (hout : ∀ x ∈ c.exceptionTable.toList, covers x (pc + 9) = false)
    (hRframes : names.length + 3 < R.frames) (hRlocals : (rest.map fun v => v.category).sum + (13 * (names.length + 1) + 43) ≤ R.locals) (hRcells : cells + 1 ≤ R.cells) (hRslots : slots + 6 ≤ R.slots) (hlocks : meth.locks = false)
    (hx : ∀ t : State, s.vm.Alike t.vm → H.size ≤ t.heap.size → (∀ q : Nat, q < H.size → t.heap[q]? = H[q]?) → XC cls s t)
    (hf : ∀ z ∈ locs, free z.base) (hc : cells + 1 ≤ mc) (hs : slots + 6 ≤ ms) :
    W p l e R s m args below meth c H locs cells slots (vx_MQ below Qc XC args s mc ms free) (F0 m pc ls rest) := by
  intro T hT X
  have htr : e.platform.stackTraces = false := (show e.platform.stackTraces = l.stackTraces by rw [X.admits.platform]).trans hl
  have Y := vx_rebase X (R' := { frames := R.frames, locals := R.locals, cells := 1, slots := 6 }) (Nat.le_refl _) (Nat.le_refl _) hRcells hRslots
  obtain ⟨s', hA⟩ : ∃ z, z = (T.setVm s.vm).setFrames (.invoking m args :: below) := ⟨_, rfl⟩
  rw [← hA] at Y
  have hvm : s'.vm = s.vm := by rw [hA]; rfl
  have hhp : s'.heap = H := by rw [hA]; exact hT
  have hW0 : s.WarmedH s'.vm := by rw [hvm]; exact State.WarmedH.refl s
  have hat' : ∀ w ∈ vx_atS own ic cls names, w.before args s' = true := fun w hw => vx_ot_at hW0 hvm.symm (hgood w (List.mem_cons_of_mem _ (List.mem_cons_of_mem _ hw))) (hat w hw)
  have hk' : (Cond.classLink own ik cls).before args s' = true := vx_ot_at hW0 hvm.symm (hgood _ List.mem_cons_self) hk
  have hini' : (Cond.initialized cls).before args s' = true := vx_ot_at hW0 hvm.symm (hgood _ (List.mem_cons_of_mem _ List.mem_cons_self)) hini
  have hU' : vx_Zq Bundle.tN "UNASSIGNED_STACK" Bundle.steD A s' s'.heap := by rw [hhp]; exact vx_Zq.moved hW0.alike (hU.kept hS.2.1)
  have hN' : vx_Zq Bundle.tN "SUPPRESSED_SENTINEL" Bundle.listD A s' s'.heap := by rw [hhp]; exact vx_Zq.moved hW0.alike (hN.kept hS.2.1)
  have h : ∀ w ∈ Bundle.ownAtoms own ic cls names, w.before args s' = true := vx_own hat' (vx_isRefq hU'.1) (vx_isRefq hN'.1) hU'.2.word hN'.2.word
  have hown' : s'.vm.findClass own = some m.cls := by rw [hvm]; exact hown
  have hins : (Cond.instantiable cls 6).before args s' = true := h _ (by simp [Bundle.ownAtoms])
  obtain ⟨vm₁, cX, kX, hfX, hkX, -, -, X₁, st1⟩ := Y.newCold hexec (own := own) (C := cls) (index := ik) (n := 6) hown' hk' hins hini'
    (g := F0 m pc ls rest) rfl (by rw [hb]; exact d0) (Nat.le_refl _) (Nat.le_refl _)
  generalize hT1 : (T.setVm vm₁).pushCell { cls := cX, slots := kX.instanceTypes.map defaultValue, vm := .none } = T1 at X₁ st1
  have hcat : (Value.ref T.heap.size).category = 1 := rfl
  have hcellA : T1.heap[T.heap.size]? = some (freshCell cX kX) := by rw [← hT1]; exact State.heap_pushCell_size _ _
  have d3' : decode c.code (pc + 3) = .ok (.dup, 1) := by rw [hb]; exact d3
  have d4' : decode c.code (pc + 4) = .ok (.ldc is, 2) := by rw [hb]; exact d4
  have hstr' : vk_R own is text sa s' := vk_R.warm hW0 hstr
  obtain ⟨U, hsteps, hrun, hend, hW, hsame, ce, hce, hO⟩ := X₁.ctorThrowS hexec htr (own := own) (cls := cls) (names := names) (ic := ic) hown' hcls hnames h (fun x hx => nomatch hx) hfX hkX hcellA (by rw [hhp, hT]; exact Nat.le_refl _) (msg := .ref sa) rfl
    (g := { method := m, pc := pc + 6, locals := ls, stack := .ref sa :: .ref T.heap.size :: .ref T.heap.size :: rest, locked := none }) rfl hsize rfl rfl (rest := rest) rfl
    (by rw [hb]; exact d6) (by rw [hb]; exact d9) hout hRframes (by simp only [List.map_cons, List.sum_cons, hcat]; omega) hlocks
  obtain ⟨f1, f2⟩ := vx_frame hsame
  rw [hhp] at f1 f2
  have hWs : s.WarmedH U.vm := State.WarmedH.trans hW0 hW
  have hcl : s.vm.findClass cls = some ce.cls := by
    have h9 := hO.cls
    rw [hvm] at h9
    exact h9
  have hall : s.sameButNew ({ U with vm := s.vm } : State) locs mc ms := by
    subst hA
    obtain ⟨e1, e2⟩ := hsame
    rw [State.setFrames_setFrames] at e1
    have h2 : (T.setVm s.vm).sameButNew ({ U with vm := s.vm } : State) [] (0 + 1) (0 + 6) := ⟨e1, e2⟩
    have h3 := X.same.trans h2
    rw [List.append_nil] at h3
    exact h3.mono hc hs
  refine ⟨U, ?_, .threw T.heap.size, hrun, hend, Or.inr ⟨T.heap.size, rfl, cls, ce, locs, hx U hWs.alike f1 (fun q hq => f2 q hq (fun z hz => nomatch hz)), hce, hO.vm, hcl, hWs, hall, hf⟩⟩
  refine st1 _ ?_
  show Steps p.tables e below (T1.setTop { method := m, pc := pc + 3, locals := ls, stack := .ref T.heap.size :: rest, locked := none }) _
  jvm_step X₁.here [X₁.here.top, hexec, d3', Value.category]
  exact X₁.ldcString hexec (own := own) (text := text) (index := is) (a := sa) hown' hstr'.1 hstr'.2
    (g := { method := m, pc := pc + 4, locals := ls, stack := .ref T.heap.size :: .ref T.heap.size :: rest, locked := none }) rfl d4' _ hsteps
/-- 'throw new E("text")', the text by a wide index -/
theorem vx_throwSW {cc : ByteArray} {pc : Nat} (hexec : p.tables.exec = Jvm.exec) (hb : c.code = cc) (hl : l.stackTraces = false) {own cls text : String} {names : List String} {ik is ic mc ms sa : Nat} {A : Nat → Prop}
    (hown : s.vm.findClass own = some m.cls) (hcls : Bundle.fit cls = true) (hnames : ∀ n ∈ names, Bundle.fit n = true)
    (hk : (Cond.classLink own ik cls).before args s = true) (hini : (Cond.initialized cls).before args s = true) (hstr : vk_R own is text sa s) (hat : ∀ w ∈ vx_atS own ic cls names, w.before args s = true)
    (hgood : ∀ w ∈ Cond.classLink own ik cls :: Cond.initialized cls :: vx_atS own ic cls names, vx_ot w = true)
    (hU : vx_Zq Bundle.tN "UNASSIGNED_STACK" Bundle.steD A s s.heap) (hN : vx_Zq Bundle.tN "SUPPRESSED_SENTINEL" Bundle.listD A s s.heap) (hS : va_S A s.heap H locs) (hsize : ls.size = c.maxLocals)
    (d0 : decode cc pc = .ok (.new ik, 3)) (d3 : decode cc (pc + 3) = .ok (.dup, 1)) (d4 : decode cc (pc + 4) = .ok (.ldc_w is, 3)) (d7 : decode cc (pc + 7) = .ok (.invokespecial ic, 3)) (d10 : decode cc (pc + 10) = .ok (.athrow, 1))
    (hout : ∀ x ∈ c.exceptionTable.toList, covers x (pc + 10) = false)
    (hRframes : names.length + 3 < R.frames) (hRlocals : (rest.map fun v => v.category).sum + (13 * (names.length + 1) + 43) ≤ R.locals) (hRcells : cells + 1 ≤ R.cells) (hRslots : slots + 6 ≤ R.slots) (hlocks : meth.locks = false)
    (hx : ∀ t : State, s.vm.Alike t.vm → H.size ≤ t.heap.size → (∀ q : Nat, q < H.size → t.heap[q]? = H[q]?) → XC cls s t)
    (hf : ∀ z ∈ locs, free z.base) (hc : cells + 1 ≤ mc) (hs : slots + 6 ≤ ms) :
    W p l e R s m args below meth c H locs cells slots (vx_MQ below Qc XC args s mc ms free) (F0 m pc ls rest) := by
  intro T hT X
  have htr : e.platform.stackTraces = false := (show e.platform.stackTraces = l.stackTraces by rw [X.admits.platform]).trans hl
  have Y := vx_rebase X (R' := { frames := R.frames, locals := R.locals, cells := 1, slots := 6 }) (Nat.le_refl _) (Nat.le_refl _) hRcells hRslots
  obtain ⟨s', hA⟩ : ∃ z, z = (T.setVm s.vm).setFrames (.invoking m args :: below) := ⟨_, rfl⟩
  rw [← hA] at Y
  have hvm : s'.vm = s.vm := by rw [hA]; rfl
  have hhp : s'.heap = H := by rw [hA]; exact hT
  have hW0 : s.WarmedH s'.vm := by rw [hvm]; exact State.WarmedH.refl s
  have hat' : ∀ w ∈ vx_atS own ic cls names, w.before args s' = true := fun w hw => vx_ot_at hW0 hvm.symm (hgood w (List.mem_cons_of_mem _ (List.mem_cons_of_mem _ hw))) (hat w hw)
  have hk' : (Cond.classLink own ik cls).before args s' = true := vx_ot_at hW0 hvm.symm (hgood _ List.mem_cons_self) hk
  have hini' : (Cond.initialized cls).before args s' = true := vx_ot_at hW0 hvm.symm (hgood _ (List.mem_cons_of_mem _ List.mem_cons_self)) hini
  have hU' : vx_Zq Bundle.tN "UNASSIGNED_STACK" Bundle.steD A s' s'.heap := by rw [hhp]; exact vx_Zq.moved hW0.alike (hU.kept hS.2.1)
  have hN' : vx_Zq Bundle.tN "SUPPRESSED_SENTINEL" Bundle.listD A s' s'.heap := by rw [hhp]; exact vx_Zq.moved hW0.alike (hN.kept hS.2.1)
  have h : ∀ w ∈ Bundle.ownAtoms own ic cls names, w.before args s' = true := vx_own hat' (vx_isRefq hU'.1) (vx_isRefq hN'.1) hU'.2.word hN'.2.word
  have hown' : s'.vm.findClass own = some m.cls := by rw [hvm]; exact hown
  have hins : (Cond.instantiable cls 6).before args s' = true := h _ (by simp [Bundle.ownAtoms])
  obtain ⟨vm₁, cX, kX, hfX, hkX, -, -, X₁, st1⟩ := Y.newCold hexec (own := own) (C := cls) (index := ik) (n := 6) hown' hk' hins hini'
    (g := F0 m pc ls rest) rfl (by rw [hb]; exact d0) (Nat.le_refl _) (Nat.le_refl _)
  generalize hT1 : (T.setVm vm₁).pushCell { cls := cX, slots := kX.instanceTypes.map defaultValue, vm := .none } = T1 at X₁ st1
  have hcat : (Value.ref T.heap.size).category = 1 := rfl
  have hcellA : T1.heap[T.heap.size]? = some (freshCell cX kX) := by rw [← hT1]; exact State.heap_pushCell_size _ _
  have d3' : decode c.code (pc + 3) = .ok (.dup, 1) := by rw [hb]; exact d3
  have d4' : decode c.code (pc + 4) = .ok (.ldc_w is, 3) := by rw [hb]; exact d4
  have hstr' : vk_R own is text sa s' := vk_R.warm hW0 hstr
  obtain ⟨U, hsteps, hrun, hend, hW, hsame, ce, hce, hO⟩ := X₁.ctorThrowS hexec htr (own := own) (cls := cls) (names := names) (ic := ic) hown' hcls hnames h (fun x hx => nomatch hx) hfX hkX hcellA (by rw [hhp, hT]; exact Nat.le_refl _) (msg := .ref sa) rfl
    (g := { method := m, pc := pc + 7, locals := ls, stack := .ref sa :: .ref T.heap.size :: .ref T.heap.size :: rest, locked := none }) rfl hsize rfl rfl (rest := rest) rfl
    (by rw [hb]; exact d7) (by rw [hb]; exact d10) hout hRframes (by simp only [List.map_cons, List.sum_cons, hcat]; omega) hlocks
  obtain ⟨f1, f2⟩ := vx_frame hsame
  rw [hhp] at f1 f2
  have hWs : s.WarmedH U.vm := State.WarmedH.trans hW0 hW
  have hcl : s.vm.findClass cls = some ce.cls := by
    have h9 := hO.cls
    rw [hvm] at h9
    exact h9
  have hall : s.sameButNew ({ U with vm := s.vm } : State) locs mc ms := by
    subst hA
    obtain ⟨e1, e2⟩ := hsame
    rw [State.setFrames_setFrames] at e1
    have h2 : (T.setVm s.vm).sameButNew ({ U with vm := s.vm } : State) [] (0 + 1) (0 + 6) := ⟨e1, e2⟩
    have h3 := X.same.trans h2
    rw [List.append_nil] at h3
    exact h3.mono hc hs
  refine ⟨U, ?_, .threw T.heap.size, hrun, hend, Or.inr ⟨T.heap.size, rfl, cls, ce, locs, hx U hWs.alike f1 (fun q hq => f2 q hq (fun z hz => nomatch hz)), hce, hO.vm, hcl, hWs, hall, hf⟩⟩
  refine st1 _ ?_
  show Steps p.tables e below (T1.setTop { method := m, pc := pc + 3, locals := ls, stack := .ref T.heap.size :: rest, locked := none }) _
  jvm_step X₁.here [X₁.here.top, hexec, d3', Value.category]
  exact X₁.ldcStringW hexec (own := own) (text := text) (index := is) (a := sa) hown' hstr'.1 hstr'.2
    (g := { method := m, pc := pc + 4, locals := ls, stack := .ref T.heap.size :: .ref T.heap.size :: rest, locked := none }) rfl d4' _ hsteps
end Ends
section Bodies
variable {l : Launch}
theorem vx_ofW {y : MethodName} {ws ws' : List Cond} {rm : Room} {Pc : Array Value → State → Prop} {Qc : Array Value → State → Outcome → State → Prop} {XC : String → State → State → Prop} {mc ms : Nat} {free : Addr → Prop} {cc : ByteArray} {maxL : Nat} {ret : Option FieldType}
    (hy : plainName y.cls = true) (hw : ws = Cond.code y cc maxL ret :: ws')
    (body : ∀ p e s m args below meth c s₁, BodyLoose p l y (headSpec ws rm) cc maxL ret e s m args below meth c s₁ → c.maxLocals = maxL → (∀ x ∈ c.exceptionTable.toList, False) → Pc args s →
      W p l e (headSpec ws rm).room s m args below meth c s.heap [] 0 0 (vx_MQ below Qc XC args s mc ms free) (entryFrame m args maxL)) : vx_Met l y ws rm Pc Qc XC mc ms free := by
  refine MetFree.of_bodyS (code := cc) (maxLocals := maxL) (ret := ret) hy ?_ ?_
  · intro args s m h hn
    obtain ⟨meth, c, h1, h2, h3, h4, h5, h6, -, -⟩ := Cond.code_spec hn (atoms_spec (ws := ws) h _ (by rw [hw]; exact List.mem_cons_self))
    exact ⟨meth, c, h1, h2, h3, h4, h5, h6⟩
  · intro p e s m args below meth c s₁ B hml hP _
    have hh0 : s₁.heap = s.heap := by rw [B.state]; rfl
    have ht : ∀ x ∈ c.exceptionTable.toList, False := by
      obtain ⟨meth9, c9, h1, h2, -, -, -, -, h7, -⟩ := Cond.code_spec B.named (atoms_spec (ws := ws) B.pre _ (by rw [hw]; exact List.mem_cons_self))
      cases Option.some.inj (h1.symm.trans B.method)
      cases Option.some.inj (h2.symm.trans (Stand.of_body B).code)
      intro x hx
      rw [Array.isEmpty_iff.mp h7] at hx
      cases hx
    obtain ⟨t, a1, o, b1, b2, b3⟩ := body p e s m args below meth c s₁ B hml ht hP s₁ hh0 (Stand.of_body B)
    exact ⟨t, o, a1, b1, b2, b3⟩
/-- the table of a body with handlers -/
theorem vx_table {p : Program} {x y : MethodName} {S : Spec} {cc bytes : ByteArray} {maxL maxL' : Nat} {ret ret' : Option FieldType} {e : Env} {s s₁ : State} {m : MethodId} {args : Array Value} {below : List Frame} {meth : Method} {c : Code} {hh : List (Nat × Nat × Nat × Nat)}
    (B : BodyLoose p l y S cc maxL ret e s m args below meth c s₁) (h : (Cond.codeWith y bytes maxL' ret' hh).before args s = true) : c.exceptionTable.toList = tableOf hh := by
  obtain ⟨m9, meth9, c9, hn9, h1, h2, -, -, h6, -⟩ := Cond.codeWith_spec h
  cases Option.some.inj (hn9.symm.trans B.named)
  cases Option.some.inj (h1.symm.trans B.method)
  cases Option.some.inj (h2.symm.trans (Stand.of_body B).code)
  rw [← h6, table_eq]
end Bodies
end VXA
/-! ===== END ===== -/
/-! ===== BEGIN a static call of a method with an exception table ===== -/
section VXS
variable {p : Program} {l : Launch} {e : Env} {R : Room} {s : State} {m : MethodId} {args : Array Value} {below : List Frame} {meth : Method} {c : Code} {T : State} {H : Heap} {locs : List Loc} {cells slots : Nat}
abbrev vx_CSW (R : Room) (s : State) (args : Array Value) (own : String) (index : Nat) (y : MethodName) (bytes : ByteArray) (maxL : Nat) (ret : Option FieldType) (hh : List (Nat × Nat × Nat × Nat)) (ws : List Cond) (rm : Room) (mc ms n : Nat) : Prop :=
  (rm.cells = mc ∧ rm.slots = ms ∧ rm.frames + 1 ≤ R.frames ∧ 8 + (maxL + 11) + rm.locals ≤ R.locals ∧ (∀ w ∈ ws, ∀ (a' : Array Value) (U : State), s.WarmedH U.vm → w.before a' U = true) ∧ Cond.codeWith y bytes maxL ret hh ∈ ws) ∧
  (Cond.codeWith y bytes maxL ret hh).before args s = true ∧ (Cond.initialized y.cls).before args s = true ∧ (y.cls ≠ "java/lang/invoke/MethodHandle" ∧ y.cls ≠ "java/lang/invoke/VarHandle") ∧
  (∀ sig, parseMethodDescriptor y.desc = some sig → n = sig.parameters.length) ∧ (Cond.methodLink own index y).before args s = true ∧ (Cond.static y).before args s = true
theorem vx_cwSW {own : String} {index maxL mc ms : Nat} {y : MethodName} {bytes : ByteArray} {ret : Option FieldType} {hh : List (Nat × Nat × Nat × Nat)} {Ts ws ws' : List Cond} {rm : Room} (n : Nat) (ht : ∀ w ∈ Ts, w.before args s = true) (hT : GoodIn Ts (va_wsS own index y ws)) (hw : ws = Cond.codeWith y bytes maxL ret hh :: ws') (hrc : rm.cells = mc) (hrs : rm.slots = ms)
    (hd : y.cls ≠ "java/lang/invoke/MethodHandle" ∧ y.cls ≠ "java/lang/invoke/VarHandle" ∧ (parseMethodDescriptor y.desc).map (fun d => d.parameters.length) = some n) (hR : rm.frames + 1 ≤ R.frames ∧ 8 + (maxL + 11) + rm.locals ≤ R.locals) :
    vx_CSW R s args own index y bytes maxL ret hh ws rm mc ms n := by
  have ok : ∀ w ∈ va_wsS own index y ws, w.before args s = true := fun w h => ht w (hT w h).1
  have hG : GoodIn Ts ws := fun w h => hT w (by unfold va_wsS; exact List.mem_append_right _ h)
  have hc : Cond.codeWith y bytes maxL ret hh ∈ ws := by rw [hw]; exact List.mem_cons_self
  refine ⟨⟨hrc, hrs, hR.1, hR.2, pay_in ht hG, hc⟩, ht _ (hG _ hc).1, ok _ (by simp [va_wsS]), ⟨hd.1, hd.2.1⟩, fun sig h => ?_, ok _ (by simp [va_wsS]), ok _ (by simp [va_wsS])⟩
  have h2 := hd.2.2
  rw [h] at h2
  exact (Option.some.inj h2).symm
theorem vx_callSW (X : Stand p l e R s m args below meth c T locs cells slots) (hexec : p.tables.exec = Jvm.exec) {own : String} {index : Nat} {y : MethodName} {bytes : ByteArray} {maxL : Nat} {ret : Option FieldType} {hh : List (Nat × Nat × Nat × Nat)}
    (hown : s.vm.findClass own = some m.cls) (hlink : (Cond.methodLink own index y).before args s = true) (hstat : (Cond.static y).before args s = true) (hinit : (Cond.initialized y.cls).before args s = true)
    (hcode : (Cond.codeWith y bytes maxL ret hh).before args s = true) (hy : y.cls ≠ "java/lang/invoke/MethodHandle" ∧ y.cls ≠ "java/lang/invoke/VarHandle")
    {W9 : Nat} {Pre : Pt → Array Value → Prop} {Post : Pt → Array Value → Option Value → Pt → Prop} (hK : Back l R p e below s args y 3 W9 Pre Post)
    {g : JFrame} (hg : g.method = m) (hsize : g.locals.size = c.maxLocals) {argsL rest : List Value} (hlen : ∀ sig, parseMethodDescriptor y.desc = some sig → argsL.length = sig.parameters.length)
    (hstack : g.stack = argsL.reverse ++ rest) (hW : 2 * g.monitorRoom + (rest.map fun v => v.category).sum ≤ W9) (hdg : decode c.code g.pc = .ok (.invokestatic index, 3))
    (hpre : ∀ vm₁, s.WarmedH vm₁ → Pre ⟨T.setVm vm₁, locs, cells, slots⟩ argsL.toArray) :
    ∃ (v : Option Value) (vm₁ : Vm) (B : Pt), s.WarmedH vm₁ ∧ Stand p l e R s m args below meth c B.U B.locs B.cells B.slots ∧ Post ⟨T.setVm vm₁, locs, cells, slots⟩ argsL.toArray v B ∧
      ∀ target, Steps p.tables e below (B.U.setTop { g with pc := g.pc + 3, stack := v.toList ++ rest }) target → Steps p.tables e below (T.setTop g) target := by
  obtain ⟨mk, methM, cM, hnamed, hmethM, -, -, -, -, -, -, hsigM⟩ := Cond.codeWith_spec hcode
  have hstatic : methM.isStatic = true := Cond.static_spec hnamed hmethM hstat
  obtain ⟨kP, hkP, -⟩ := className_of_methodNamed hnamed
  have hinitP : kP.init = .initialized := Cond.initialized_spec (findClass_of_methodNamed hnamed) hkP hinit
  obtain ⟨vm₁, X₁, hstep₁⟩ := X.invokestatic hexec hown hlink hnamed hmethM hstatic hkP hinitP hy (g := g) hg (argsL := argsL) (rest := rest) (hlen _ hsigM) hstack hdg
  obtain ⟨v, B, X', hpost, hsteps⟩ := hK m meth c ⟨T.setVm vm₁, locs, cells, slots⟩ { g with stack := rest } (.invokestatic index) mk argsL.toArray X₁ hg hsize hdg hW (X₁.named hnamed) (hpre vm₁ X₁.warmed)
  exact ⟨v, vm₁, B, X₁.warmed, X', hpost, fun target h => hstep₁ _ fun acts => by rw [doInvoke_state]; exact hsteps.trans h⟩
theorem vx_runSW {y : MethodName} {bytes cc : ByteArray} {maxL nL mc ms n index : Nat} {ret : Option FieldType} {hh : List (Nat × Nat × Nat × Nat)} {ws : List Cond} {rm : Room} {Pc : Array Value → State → Prop} {Qc : Array Value → State → Outcome → State → Prop} {free : Addr → Prop} {Ts : List Cond} {own : String} {As rest : List Value} {g : JFrame}
    (S : CallFix p m c cc nL s args Ts own) (hM : Met l y ws rm Pc Qc mc ms free) (cw : vx_CSW R s args own index y bytes maxL ret hh ws rm mc ms n) (hp : PreS s H Pc As)
    (hg : g.method = m) (hn : As.length = n) (hsize : g.locals.size = nL) (hstack : g.stack = As.reverse ++ rest) (hW : 2 * g.monitorRoom + (rest.map fun v => v.category).sum ≤ 8) (hdg : decode cc g.pc = .ok (.invokestatic index, 3)) (hf : cells + mc ≤ R.cells ∧ slots + ms ≤ R.slots) :
    va_Run p l e R s m args below meth c H locs cells slots mc ms g rest (Qc As.toArray) (free) := by
  obtain ⟨⟨hrc, hrs, hfr, hlo, hws, hcw⟩, hcode, hini, hy, hlen, hl, hstt⟩ := cw
  have hK : Back l R p e below s args y 3 8 (PreOf R mc ms Pc) (PostOf Qc mc ms free) := va_backW (hh := hh) (bytes := bytes) (maxL := maxL) (ret := ret) hM hp.1 hrc hrs hfr hlo hws hcw (fun a' U hW => word_at hW (Or.inl (by first | rfl | simp [Cond.onTables, Cond.keeps, Cond.steady])) hini)
  obtain ⟨hx, hb, hml, ho, -⟩ := S
  intro T hT X
  obtain ⟨v, vm₁, ⟨U', l2, c2, s2⟩, hW₁, X', ⟨g', mk, t, L, e1, e2, hq, h1, hL, h2, h3⟩, st⟩ := vx_callSW X hx (hh := hh) (bytes := bytes) (maxL := maxL) (ret := ret) ho hl hstt hini hcode hy hK hg (hsize.trans hml.symm) (argsL := As) (rest := rest) (fun sig h => hn.trans (hlen sig h)) hstack hW (by rw [hb]; exact hdg)
    (fun vm₁ hW₁ => ⟨hf.1, hf.2, hp.2 (T.setVm vm₁) hT hW₁⟩)
  dsimp only [Pt.U, Pt.locs, Pt.cells, Pt.slots] at X' e1 e2 h1 h2 h3 st
  subst h1; subst h2; subst h3
  exact ⟨v, (T.setVm vm₁).calling g' mk As.toArray, t, U', L, hT, X', hL, e1, e2, hq, st⟩
/-- not caught here, past rows that name other classes: it goes on to the caller -/
theorem vx_outP {p : Program} {l : Launch} {e : Env} {R : Room} {s : State} {m : MethodId} {args : Array Value} {below : List Frame} {meth : Method} {c : Code} {H : Heap} {locs : List Loc} {cells slots : Nat} {free : Addr → Prop} {ls : Array Slot} {rest : List Value} {Qc : Array Value → State → Outcome → State → Prop} {XC : String → State → State → Prop}
    {pc : Nat} {own E : String} {ce : Cell} {q : Addr} {mc ms : Nat} (hown : s.vm.findClass own = some m.cls) (hlocks : meth.locks = false)
    (hpass : ∀ z ∈ c.exceptionTable.toList, covers z pc = false ∨ (z.catchType ≠ 0 ∧ ∃ nm : String, (Cond.classLink own z.catchType nm).before args s = true ∧ va_Nc E nm s)) (hcell : H[q]? = some ce) (hv : ce.vm = .none) (hcl : s.vm.findClass E = some ce.cls)
    (hx : ∀ t : State, t.heap = H → s.vm.Alike t.vm → XC E s t) (hf : ∀ z ∈ locs, free z.base) (hc : cells ≤ mc) (hs : slots ≤ ms) :
    vx_W p l e R s m args below meth c H locs cells slots (vx_MQ below Qc XC args s mc ms free) (F0 m pc ls rest) q := by
  intro T hT X
  have hpl : e.platform.magicAccessors = ({} : Platform).magicAccessors := by rw [X.admits.platform]
  obtain ⟨vm', hW', X', st⟩ := X.outThrough hlocks q (g := F0 m pc ls rest) rfl rfl rfl (cell := ce) (by rw [hT]; exact hcell) (by rw [hv]; rfl)
    (by obtain ⟨k9, h9, -⟩ := Vm.findClass_spec hcl; exact ⟨k9, h9⟩) (fun z hz => by
      rcases hpass z hz with h | ⟨hz0, nm, hl1, hn1⟩
      · exact Or.inl h
      · obtain ⟨c6, hc6, hcl6⟩ := Cond.classLink_spec hown hl1 e.platform hpl
        obtain ⟨a8, b8, h1, h2, h3⟩ := hn1
        cases Option.some.inj (h1.symm.trans hcl)
        cases Option.some.inj (h2.symm.trans hc6)
        exact Or.inr ⟨hz0, _, hcl6, h3⟩)
  obtain ⟨g₀, hfr⟩ := X'.frames_eq
  have hcell9 : ((T.setVm vm').setFrames (.throwing q :: below)).heap[q]? = some ce := by
    show T.heap[q]? = some ce
    rw [hT]; exact hcell
  have hend : Ended ((T.setVm vm').setFrames (.throwing q :: below)) below (.threw q) := State.frames_setFrames _ (State.cur_lt_of_frames hfr)
  refine ⟨(T.setVm vm').setFrames (.throwing q :: below), ?_, .threw q, X'.here.running, hend, Or.inr ⟨q, rfl, E, ce, locs, hx _ hT (X'.ends _).1.alike, hcell9, hv, hcl, (X'.ends _).1, (X'.ends _).2.mono hc hs, hf⟩⟩
  rw [X.pushThrowing_eq]
  exact st
/-- a thing of a world lies in the heap -/
theorem vx_lt {D : va_G} {cl : List vw_C} {ws : va_W} {H1 : Heap} (h : va_P D cl ws H1) {k : Nat} {q : Nat × va_E} (hk : ws[k]? = some q) : q.1 < H1.size := (h k q hk).lt
end VXS
/-! ===== END ===== -/
/-! ===== BEGIN methods with a table of their own: called by a name, returning or throwing ===== -/
section VXH
/-! vx_backW, vx_callVX, vx_callSX, vx_callVW, vx_runVW, vx_runVX, vx_runSX, vx_ofWH follow the same proofs as their sisters above (Free/Laws.lean, Shelf42/LK1.lean); vx_outP calls Shelf42/NT130.lean (outThrough). -/
section
variable {l : Launch} {R : Room} {p : Program} {e : Env} {below : List Frame} {s : State} {sargs : Array Value} {y : MethodName} {len W9 : Nat}
theorem vx_backW {ws : List Cond} {rm : Room} {Pc : Array Value → State → Prop} {Qc : Array Value → State → Outcome → State → Prop} {XC : String → State → State → Prop} {mc ms : Nat} {free : Addr → Prop} {bytes : ByteArray} {maxL : Nat} {ret : Option FieldType} {hh : List (Nat × Nat × Nat × Nat)}
    (hM : vx_Met l y ws rm Pc Qc XC mc ms free) (hblind : FrameBlind Pc) (hrc : rm.cells = mc) (hrs : rm.slots = ms)
    (hframes : rm.frames + 1 ≤ R.frames) (hlocals : W9 + (maxL + 11) + rm.locals ≤ R.locals)
    (hws : ∀ w ∈ ws, ∀ a' U, s.WarmedH U.vm → w.before a' U = true) (hcode : Cond.codeWith y bytes maxL ret hh ∈ ws) (hinit : ∀ a' U, s.WarmedH U.vm → (Cond.initialized y.cls).before a' U = true) :
    vx_Back l R p e below s sargs y len W9 (PreOf R mc ms Pc) (PostOf Qc mc ms free) (vx_Post XC mc ms free) := by
  intro m meth c A g ig mk a X hg hsize hdg hW hn hp
  have h1 : (headSpec ws rm).pre.before a A.U = true := atoms_intro fun w hw => hws w hw _ _ X.warmed
  have h2 : (Cond.codeWith y bytes maxL ret hh).before a A.U = true := hws _ hcode _ _ X.warmed
  have h3 : (Cond.initialized y.cls).before a A.U = true := hinit _ _ X.warmed
  have h4 : A.cells + (headSpec ws rm).room.cells ≤ R.cells := by rw [show (headSpec ws rm).room.cells = mc from hrc]; exact hp.1
  have h5 : A.slots + (headSpec ws rm).room.slots ≤ R.slots := by rw [show (headSpec ws rm).room.slots = ms from hrs]; exact hp.2.1
  have hPc : Pc a (A.U.calling g mk a) := hblind _ _ _ _ hp.2.2
  obtain ⟨U, Ls, c0, s0⟩ := A
  dsimp only [Pt.U, Pt.locs, Pt.cells, Pt.slots] at h1 h2 h3 h4 h5 X hn hPc ⊢
  obtain ⟨m9, methY, cY, hn9, hmY, hcY, -, hlY, -⟩ := Cond.codeWith_spec h2
  cases Option.some.inj (hn9.symm.trans hn)
  obtain ⟨kY, hkY, -⟩ := className_of_methodNamed hn
  have hinitY : kY.init = .initialized := Cond.initialized_spec (findClass_of_methodNamed hn) hkY h3
  have h : At U g.method c below := by rw [hg]; exact X.here
  have hlocals9 : W9 + (maxL + 11) + (headSpec ws rm).room.locals ≤ R.locals := hlocals
  have happ : (headSpec ws rm).appliesLoose y e.platform (U.calling g mk a) = true :=
    Spec.appliesLoose_calling (g := g) h hdg hn hkY hinitY
      (X.room_calling (g := g) (R' := (headSpec ws rm).room) hsize hmY hcY hframes (by rw [hlY]; omega) h4 h5) h1
  obtain ⟨mid, hmid⟩ := h.above
  have hfr : (U.setTop g).frames = (.java g :: mid) ++ below := by rw [State.frames_setTop' g h.top, hmid]; rfl
  obtain ⟨o, s₂, hsteps, -, hend, hq⟩ := Steps.callFree hM p X.admits X.cas X.clock (acts := []) hfr happ hPc trivial
  have hq' : vx_Q Qc XC mc ms free a (U.calling g mk a) o s₂ := hq
  rw [State.frames_setTop' g h.top] at hend
  obtain ⟨g₀, hg0⟩ := Option.isSome_iff_exists.mp h.top
  obtain ⟨r, hr⟩ := State.topJava?_eq_some.mp hg0
  have hr' : (({ U with heap := s₂.heap, slotsUsed := s₂.slotsUsed } : State).setVm s₂.vm).frames = .java g₀ :: r := hr
  rcases hq' with ⟨hqc, L, hfe, hL⟩ | ⟨q, rfl, E, ce, L, hx, hce, hcv, hcl, hW₂, hsm, hL⟩
  · obtain ⟨⟨v, rfl⟩, hW₂, e2, q2, q3, q4, q5, q6⟩ := id hfe
    have e3 : s₂ = ({ (U.calling g mk a).setFrames s₂.frames with heap := s₂.heap, slotsUsed := s₂.slotsUsed } : State).setVm s₂.vm := by
      have : s₂ = ({ s₂ with vm := (U.calling g mk a).vm } : State).setVm s₂.vm := rfl
      rw [e2] at this
      exact this
    obtain ⟨c₂, i₂, len₂, hc₂, hd₂, hf₂⟩ := hend
    have hW' : U.WarmedH s₂.vm := hW₂
    have hcc : c₂ = c := by
      have h1 : s₂.code? g.method = U.code? g.method := by
        rw [State.code?_eq, State.code?_eq, hW'.alike.method?]
      exact Option.some.inj (hc₂.symm.trans (h1.trans h.code))
    subst hcc
    have hlen : len₂ = len := by rw [hdg] at hd₂; cases hd₂; rfl
    subst hlen
    have hs₂ : s₂ = (({ U with heap := s₂.heap, slotsUsed := s₂.slotsUsed } : State).setVm s₂.vm).setTop { g with pc := g.pc + len₂, stack := v.toList ++ g.stack } := by
      refine e3.trans ?_
      rw [hf₂, State.calling_eq h.top, State.setFrames_setFrames, State.setTop_of_frames _ hr', hr]
      rfl
    have hsame : U.sameButNew ({ U with heap := s₂.heap, slotsUsed := s₂.slotsUsed } : State) L mc ms := by
      refine ⟨?_, q2, q3, q4, q5, q6⟩
      obtain ⟨t, ht, -⟩ := State.frames_cons hr
      show ({ U with heap := s₂.heap, slotsUsed := s₂.slotsUsed } : State) = { U.setFrames U.frames with heap := s₂.heap, slotsUsed := s₂.slotsUsed }
      rw [State.setFrames_self ht]
    subst hg
    refine Or.inl ⟨v, ⟨(({ U with heap := s₂.heap, slotsUsed := s₂.slotsUsed } : State).setVm s₂.vm), Ls ++ L, c0 + mc, s0 + ms⟩,
      ⟨X.admits, X.cas, X.clock, X.frames, X.room, X.hears, X.method, X.code, (X.here.setHeapUsed s₂.heap s₂.slotsUsed).setVm hW'.alike, X.tail, State.WarmedH.trans X.warmed hW', X.limits, X.bytes, X.same.trans (hsame.setVm s.vm)⟩,
      ⟨g, mk, s₂, L, rfl, rfl, hqc, rfl, hL, rfl, rfl⟩, ?_⟩
    show Steps p.tables e below _ ((({ U with heap := s₂.heap, slotsUsed := s₂.slotsUsed } : State).setVm s₂.vm).setTop { g with pc := g.pc + len₂, stack := v.toList ++ g.stack })
    rw [← hs₂]
    exact hsteps
  · obtain ⟨e2, q2, q3, q4, q5, q6⟩ := id hsm
    have e3 : s₂ = ({ (U.calling g mk a).setFrames s₂.frames with heap := s₂.heap, slotsUsed := s₂.slotsUsed } : State).setVm s₂.vm := by
      have : s₂ = ({ s₂ with vm := (U.calling g mk a).vm } : State).setVm s₂.vm := rfl
      rw [e2] at this
      exact this
    have hf₂ : s₂.frames = .throwing q :: .java g :: U.frames.tail := hend
    have hW' : U.WarmedH s₂.vm := hW₂
    have hs₂ : s₂ = ((({ U with heap := s₂.heap, slotsUsed := s₂.slotsUsed } : State).setVm s₂.vm).setTop g).pushFrame (.throwing q) := by
      refine e3.trans ?_
      rw [hf₂, State.calling_eq h.top, State.setFrames_setFrames, State.pushFrame, State.frames_setTop _ hr', State.setTop_of_frames _ hr', State.setFrames_setFrames, hr]
      rfl
    have hsame : U.sameButNew ({ U with heap := s₂.heap, slotsUsed := s₂.slotsUsed } : State) L mc ms := by
      refine ⟨?_, q2, q3, q4, q5, q6⟩
      obtain ⟨t, ht, -⟩ := State.frames_cons hr
      show ({ U with heap := s₂.heap, slotsUsed := s₂.slotsUsed } : State) = { U.setFrames U.frames with heap := s₂.heap, slotsUsed := s₂.slotsUsed }
      rw [State.setFrames_self ht]
    subst hg
    refine Or.inr ⟨q, ⟨(({ U with heap := s₂.heap, slotsUsed := s₂.slotsUsed } : State).setVm s₂.vm), Ls ++ L, c0 + mc, s0 + ms⟩,
      ⟨X.admits, X.cas, X.clock, X.frames, X.room, X.hears, X.method, X.code, (X.here.setHeapUsed s₂.heap s₂.slotsUsed).setVm hW'.alike, X.tail, State.WarmedH.trans X.warmed hW', X.limits, X.bytes, X.same.trans (hsame.setVm s.vm)⟩,
      ⟨g, mk, s₂, L, E, ce, rfl, rfl, hx, hce, hcv, hcl, rfl, hL, rfl, rfl⟩, ?_⟩
    show Steps p.tables e below _ (((({ U with heap := s₂.heap, slotsUsed := s₂.slotsUsed } : State).setVm s₂.vm).setTop g).pushFrame (.throwing q))
    rw [← hs₂]
    exact hsteps
end
variable {p : Program} {l : Launch} {e : Env} {R : Room} {s : State} {m : MethodId} {args : Array Value} {below : List Frame} {meth : Method} {c : Code} {T : State} {H : Heap} {locs : List Loc} {cells slots : Nat}
theorem vx_callVX (X : Stand p l e R s m args below meth c T locs cells slots) (hexec : p.tables.exec = Jvm.exec) {own C : String} {index : Nat} {y : MethodName} {bytes : ByteArray} {maxL : Nat} {ret : Option FieldType} {hh : List (Nat × Nat × Nat × Nat)}
    (hown : s.vm.findClass own = some m.cls) (hlink : (Cond.methodLink own index y).before args s = true) (hinst : (Cond.instanceMethod y).before args s = true) (hsel : (Cond.selects C y y).before args s = true)
    (hcode : (Cond.codeWith y bytes maxL ret hh).before args s = true) (hy : y.cls ≠ "java/lang/invoke/MethodHandle" ∧ y.cls ≠ "java/lang/invoke/VarHandle")
    {W9 : Nat} {Pre : Pt → Array Value → Prop} {Post : Pt → Array Value → Option Value → Pt → Prop} {PostX : Pt → Array Value → Addr → Pt → Prop} (hK : vx_Back l R p e below s args y 3 W9 Pre Post PostX)
    {b : Addr} {cellB : Cell} (hcell : T.heap[b]? = some cellB) (hobj : cellB.vm.isStatics = false) (hcls : s.vm.findClass C = some cellB.cls)
    {g : JFrame} (hg : g.method = m) (hsize : g.locals.size = c.maxLocals) {argsL rest : List Value} (hlen : ∀ sig, parseMethodDescriptor y.desc = some sig → argsL.length = sig.parameters.length)
    (hstack : g.stack = argsL.reverse ++ .ref b :: rest) (hW : 2 * g.monitorRoom + (rest.map fun v => v.category).sum ≤ W9) (hdg : decode c.code g.pc = .ok (.invokevirtual index, 3))
    (hpre : ∀ vm₁, s.WarmedH vm₁ → Pre ⟨T.setVm vm₁, locs, cells, slots⟩ (Value.ref b :: argsL).toArray) :
    (∃ (v : Option Value) (vm₁ : Vm) (B : Pt), s.WarmedH vm₁ ∧ Stand p l e R s m args below meth c B.U B.locs B.cells B.slots ∧ Post ⟨T.setVm vm₁, locs, cells, slots⟩ (Value.ref b :: argsL).toArray v B ∧
      ∀ target, Steps p.tables e below (B.U.setTop { g with pc := g.pc + 3, stack := v.toList ++ rest }) target → Steps p.tables e below (T.setTop g) target) ∨
    (∃ (q : Addr) (vm₁ : Vm) (B : Pt), s.WarmedH vm₁ ∧ Stand p l e R s m args below meth c B.U B.locs B.cells B.slots ∧ PostX ⟨T.setVm vm₁, locs, cells, slots⟩ (Value.ref b :: argsL).toArray q B ∧
      Steps p.tables e below (T.setTop g) ((B.U.setTop { g with stack := rest }).pushFrame (.throwing q))) := by
  obtain ⟨mk, methM, hnamed, hmethM, hstM, habM⟩ := Cond.instanceMethod_spec hinst
  obtain ⟨m8, methM', cM, hn8, hmethM', -, -, -, -, -, -, hsigM⟩ := Cond.codeWith_spec hcode
  cases Option.some.inj (hn8.symm.trans hnamed)
  cases hmethM.symm.trans hmethM'
  obtain ⟨c2, r2, m2, q1, q2, q3, q4, kP, hkP, hkPi⟩ := Cond.selects_spec hsel
  cases hcls.symm.trans q1
  cases (State.methodFound?_of_named hnamed hy).symm.trans q2
  cases hnamed.symm.trans q3
  have hselP : selectMethod e.platform s.vm cellB.cls mk = .method mk := by rw [Launch.admits_selectMethod X.admits]; exact q4
  obtain ⟨vm₁, X₁, hstep₁⟩ := X.invokevirtual hexec hown hlink hnamed hmethM hstM hkP hkPi hy (a := b) (cell := cellB) hcell
    (fun z h => by rw [h] at hobj; cases hobj) hselP hmethM habM hkP hkPi (g := g) hg (argsL := argsL) (rest := rest) (hlen _ hsigM) hstack hdg
  rcases hK m meth c ⟨T.setVm vm₁, locs, cells, slots⟩ { g with stack := rest } (.invokevirtual index) mk (Value.ref b :: argsL).toArray X₁ hg hsize hdg hW (X₁.named hnamed) (hpre vm₁ X₁.warmed) with ⟨v, B, X', hpost, hsteps⟩ | ⟨q, B, X', hpost, hsteps⟩
  · exact Or.inl ⟨v, vm₁, B, X₁.warmed, X', hpost, fun target h => hstep₁ _ fun acts => by rw [doInvoke_state]; exact hsteps.trans h⟩
  · exact Or.inr ⟨q, vm₁, B, X₁.warmed, X', hpost, hstep₁ _ fun acts => by rw [doInvoke_state]; exact hsteps⟩
theorem vx_callSX (X : Stand p l e R s m args below meth c T locs cells slots) (hexec : p.tables.exec = Jvm.exec) {own : String} {index : Nat} {y : MethodName} {bytes : ByteArray} {maxL : Nat} {ret : Option FieldType} {hh : List (Nat × Nat × Nat × Nat)}
    (hown : s.vm.findClass own = some m.cls) (hlink : (Cond.methodLink own index y).before args s = true) (hstat : (Cond.static y).before args s = true) (hinit : (Cond.initialized y.cls).before args s = true)
    (hcode : (Cond.codeWith y bytes maxL ret hh).before args s = true) (hy : y.cls ≠ "java/lang/invoke/MethodHandle" ∧ y.cls ≠ "java/lang/invoke/VarHandle")
    {W9 : Nat} {Pre : Pt → Array Value → Prop} {Post : Pt → Array Value → Option Value → Pt → Prop} {PostX : Pt → Array Value → Addr → Pt → Prop} (hK : vx_Back l R p e below s args y 3 W9 Pre Post PostX)
    {g : JFrame} (hg : g.method = m) (hsize : g.locals.size = c.maxLocals) {argsL rest : List Value} (hlen : ∀ sig, parseMethodDescriptor y.desc = some sig → argsL.length = sig.parameters.length)
    (hstack : g.stack = argsL.reverse ++ rest) (hW : 2 * g.monitorRoom + (rest.map fun v => v.category).sum ≤ W9) (hdg : decode c.code g.pc = .ok (.invokestatic index, 3))
    (hpre : ∀ vm₁, s.WarmedH vm₁ → Pre ⟨T.setVm vm₁, locs, cells, slots⟩ argsL.toArray) :
    (∃ (v : Option Value) (vm₁ : Vm) (B : Pt), s.WarmedH vm₁ ∧ Stand p l e R s m args below meth c B.U B.locs B.cells B.slots ∧ Post ⟨T.setVm vm₁, locs, cells, slots⟩ argsL.toArray v B ∧
      ∀ target, Steps p.tables e below (B.U.setTop { g with pc := g.pc + 3, stack := v.toList ++ rest }) target → Steps p.tables e below (T.setTop g) target) ∨
    (∃ (q : Addr) (vm₁ : Vm) (B : Pt), s.WarmedH vm₁ ∧ Stand p l e R s m args below meth c B.U B.locs B.cells B.slots ∧ PostX ⟨T.setVm vm₁, locs, cells, slots⟩ argsL.toArray q B ∧
      Steps p.tables e below (T.setTop g) ((B.U.setTop { g with stack := rest }).pushFrame (.throwing q))) := by
  obtain ⟨mk, methM, cM, hnamed, hmethM, -, -, -, -, -, -, hsigM⟩ := Cond.codeWith_spec hcode
  have hstatic : methM.isStatic = true := Cond.static_spec hnamed hmethM hstat
  obtain ⟨kP, hkP, -⟩ := className_of_methodNamed hnamed
  have hinitP : kP.init = .initialized := Cond.initialized_spec (findClass_of_methodNamed hnamed) hkP hinit
  obtain ⟨vm₁, X₁, hstep₁⟩ := X.invokestatic hexec hown hlink hnamed hmethM hstatic hkP hinitP hy (g := g) hg (argsL := argsL) (rest := rest) (hlen _ hsigM) hstack hdg
  rcases hK m meth c ⟨T.setVm vm₁, locs, cells, slots⟩ { g with stack := rest } (.invokestatic index) mk argsL.toArray X₁ hg hsize hdg hW (X₁.named hnamed) (hpre vm₁ X₁.warmed) with ⟨v, B, X', hpost, hsteps⟩ | ⟨q, B, X', hpost, hsteps⟩
  · exact Or.inl ⟨v, vm₁, B, X₁.warmed, X', hpost, fun target h => hstep₁ _ fun acts => by rw [doInvoke_state]; exact hsteps.trans h⟩
  · exact Or.inr ⟨q, vm₁, B, X₁.warmed, X', hpost, hstep₁ _ fun acts => by rw [doInvoke_state]; exact hsteps⟩
theorem vx_callVW (X : Stand p l e R s m args below meth c T locs cells slots) (hexec : p.tables.exec = Jvm.exec) {own C : String} {index : Nat} {y : MethodName} {bytes : ByteArray} {maxL : Nat} {ret : Option FieldType} {hh : List (Nat × Nat × Nat × Nat)}
    (hown : s.vm.findClass own = some m.cls) (hlink : (Cond.methodLink own index y).before args s = true) (hinst : (Cond.instanceMethod y).before args s = true) (hsel : (Cond.selects C y y).before args s = true)
    (hcode : (Cond.codeWith y bytes maxL ret hh).before args s = true) (hy : y.cls ≠ "java/lang/invoke/MethodHandle" ∧ y.cls ≠ "java/lang/invoke/VarHandle")
    {W9 : Nat} {Pre : Pt → Array Value → Prop} {Post : Pt → Array Value → Option Value → Pt → Prop} (hK : Back l R p e below s args y 3 W9 Pre Post)
    {b : Addr} {cellB : Cell} (hcell : T.heap[b]? = some cellB) (hobj : cellB.vm.isStatics = false) (hcls : s.vm.findClass C = some cellB.cls)
    {g : JFrame} (hg : g.method = m) (hsize : g.locals.size = c.maxLocals) {argsL rest : List Value} (hlen : ∀ sig, parseMethodDescriptor y.desc = some sig → argsL.length = sig.parameters.length)
    (hstack : g.stack = argsL.reverse ++ .ref b :: rest) (hW : 2 * g.monitorRoom + (rest.map fun v => v.category).sum ≤ W9) (hdg : decode c.code g.pc = .ok (.invokevirtual index, 3))
    (hpre : ∀ vm₁, s.WarmedH vm₁ → Pre ⟨T.setVm vm₁, locs, cells, slots⟩ (Value.ref b :: argsL).toArray) :
    ∃ (v : Option Value) (vm₁ : Vm) (B : Pt), s.WarmedH vm₁ ∧ Stand p l e R s m args below meth c B.U B.locs B.cells B.slots ∧ Post ⟨T.setVm vm₁, locs, cells, slots⟩ (Value.ref b :: argsL).toArray v B ∧
      ∀ target, Steps p.tables e below (B.U.setTop { g with pc := g.pc + 3, stack := v.toList ++ rest }) target → Steps p.tables e below (T.setTop g) target := by
  obtain ⟨mk, methM, hnamed, hmethM, hstM, habM⟩ := Cond.instanceMethod_spec hinst
  obtain ⟨m8, methM', cM, hn8, hmethM', -, -, -, -, -, -, hsigM⟩ := Cond.codeWith_spec hcode
  cases Option.some.inj (hn8.symm.trans hnamed)
  cases hmethM.symm.trans hmethM'
  obtain ⟨c2, r2, m2, q1, q2, q3, q4, kP, hkP, hkPi⟩ := Cond.selects_spec hsel
  cases hcls.symm.trans q1
  cases (State.methodFound?_of_named hnamed hy).symm.trans q2
  cases hnamed.symm.trans q3
  have hselP : selectMethod e.platform s.vm cellB.cls mk = .method mk := by rw [Launch.admits_selectMethod X.admits]; exact q4
  obtain ⟨vm₁, X₁, hstep₁⟩ := X.invokevirtual hexec hown hlink hnamed hmethM hstM hkP hkPi hy (a := b) (cell := cellB) hcell
    (fun z h => by rw [h] at hobj; cases hobj) hselP hmethM habM hkP hkPi (g := g) hg (argsL := argsL) (rest := rest) (hlen _ hsigM) hstack hdg
  obtain ⟨v, B, X', hpost, hsteps⟩ := hK m meth c ⟨T.setVm vm₁, locs, cells, slots⟩ { g with stack := rest } (.invokevirtual index) mk (Value.ref b :: argsL).toArray X₁ hg hsize hdg hW (X₁.named hnamed) (hpre vm₁ X₁.warmed)
  exact ⟨v, vm₁, B, X₁.warmed, X', hpost, fun target h => hstep₁ _ fun acts => by rw [doInvoke_state]; exact hsteps.trans h⟩
abbrev vx_CVW (R : Room) (s : State) (args : Array Value) (own C : String) (index : Nat) (y : MethodName) (bytes : ByteArray) (maxL : Nat) (ret : Option FieldType) (hh : List (Nat × Nat × Nat × Nat)) (ws : List Cond) (rm : Room) (mc ms n : Nat) : Prop :=
  (rm.cells = mc ∧ rm.slots = ms ∧ rm.frames + 1 ≤ R.frames ∧ 8 + (maxL + 11) + rm.locals ≤ R.locals ∧ (∀ w ∈ ws, ∀ (a' : Array Value) (U : State), s.WarmedH U.vm → w.before a' U = true) ∧ Cond.codeWith y bytes maxL ret hh ∈ ws) ∧
  (Cond.codeWith y bytes maxL ret hh).before args s = true ∧ (Cond.initialized y.cls).before args s = true ∧ (y.cls ≠ "java/lang/invoke/MethodHandle" ∧ y.cls ≠ "java/lang/invoke/VarHandle") ∧
  (∀ sig, parseMethodDescriptor y.desc = some sig → n = sig.parameters.length) ∧ (Cond.methodLink own index y).before args s = true ∧ (Cond.instanceMethod y).before args s = true ∧ (Cond.selects C y y).before args s = true
theorem vx_cwVW {own C : String} {index maxL mc ms : Nat} {y : MethodName} {bytes : ByteArray} {ret : Option FieldType} {hh : List (Nat × Nat × Nat × Nat)} {Ts ws ws' : List Cond} {rm : Room} (n : Nat) (ht : ∀ w ∈ Ts, w.before args s = true) (hT : GoodIn Ts (wsV own index C y ws)) (hw : ws = Cond.codeWith y bytes maxL ret hh :: ws') (hrc : rm.cells = mc) (hrs : rm.slots = ms)
    (hd : y.cls = C ∧ y.cls ≠ "java/lang/invoke/MethodHandle" ∧ y.cls ≠ "java/lang/invoke/VarHandle" ∧ (parseMethodDescriptor y.desc).map (fun d => d.parameters.length) = some n) (hR : rm.frames + 1 ≤ R.frames ∧ 8 + (maxL + 11) + rm.locals ≤ R.locals) :
    vx_CVW R s args own C index y bytes maxL ret hh ws rm mc ms n := by
  obtain ⟨hC, hd⟩ := hd
  subst hC
  have ok : ∀ w ∈ wsV own index y.cls y ws, w.before args s = true := fun w h => ht w (hT w h).1
  have hG : GoodIn Ts ws := fun w h => hT w (by unfold wsV; exact List.mem_append_right _ h)
  have hc : Cond.codeWith y bytes maxL ret hh ∈ ws := by rw [hw]; exact List.mem_cons_self
  refine ⟨⟨hrc, hrs, hR.1, hR.2, pay_in ht hG, hc⟩, ht _ (hG _ hc).1, ok _ (by simp [wsV]), ⟨hd.1, hd.2.1⟩, fun sig h => ?_, ok _ (by simp [wsV]), ok _ (by simp [wsV]), ok _ (by simp [wsV])⟩
  have h2 := hd.2.2
  rw [h] at h2
  exact (Option.some.inj h2).symm
theorem vx_runVW {y : MethodName} {bytes cc : ByteArray} {maxL nL mc ms n index : Nat} {ret : Option FieldType} {hh : List (Nat × Nat × Nat × Nat)} {ws : List Cond} {rm : Room} {Pc : Array Value → State → Prop} {Qc : Array Value → State → Outcome → State → Prop} {free : Addr → Prop} {Ts : List Cond} {own C : String} {b : Addr} {As rest : List Value} {g : JFrame}
    (S : CallFix p m c cc nL s args Ts own) (hM : Met l y ws rm Pc Qc mc ms free) (cw : vx_CVW R s args own C index y bytes maxL ret hh ws rm mc ms n) (hp : PreV s H C b Pc As)
    (hg : g.method = m) (hn : As.length = n) (hsize : g.locals.size = nL) (hstack : g.stack = As.reverse ++ .ref b :: rest) (hW : 2 * g.monitorRoom + (rest.map fun v => v.category).sum ≤ 8) (hdg : decode cc g.pc = .ok (.invokevirtual index, 3)) (hf : cells + mc ≤ R.cells ∧ slots + ms ≤ R.slots) :
    va_Run p l e R s m args below meth c H locs cells slots mc ms g rest (Qc (Value.ref b :: As).toArray) free := by
  obtain ⟨⟨hrc, hrs, hfr, hlo, hws, hcw⟩, hcode, hini, hy, hlen, hl, hin, hse⟩ := cw
  have hK : Back l R p e below s args y 3 8 (PreOf R mc ms Pc) (PostOf Qc mc ms free) := va_backW (hh := hh) (bytes := bytes) (maxL := maxL) (ret := ret) hM hp.1 hrc hrs hfr hlo hws hcw (fun a' U hW => word_at hW (Or.inl (by first | rfl | simp [Cond.onTables, Cond.keeps, Cond.steady])) hini)
  obtain ⟨hx, hb, hml, ho, -⟩ := S
  obtain ⟨-, ⟨cellB, hcB, hoB, hclB⟩, hPc⟩ := hp
  intro T hT X
  obtain ⟨v, vm₁, ⟨U', l2, c2, s2⟩, hW₁, X', ⟨g', mk, t, L, e1, e2, hq, h1, hL, h2, h3⟩, st⟩ := vx_callVW X hx (C := C) (hh := hh) (bytes := bytes) (maxL := maxL) (ret := ret) ho hl hin hse hcode hy hK (by rw [hT]; exact hcB) hoB hclB hg (hsize.trans hml.symm) (argsL := As) (rest := rest) (fun sig h => hn.trans (hlen sig h)) hstack hW (by rw [hb]; exact hdg)
    (fun vm₁ hW₁ => ⟨hf.1, hf.2, hPc (T.setVm vm₁) hT hW₁⟩)
  dsimp only [Pt.U, Pt.locs, Pt.cells, Pt.slots] at X' e1 e2 h1 h2 h3 st
  subst h1; subst h2; subst h3
  exact ⟨v, (T.setVm vm₁).calling g' mk (Value.ref b :: As).toArray, t, U', L, hT, X', hL, e1, e2, hq, st⟩
section
variable {y : MethodName} {bytes cc : ByteArray} {maxL nL mc ms n index : Nat} {ret : Option FieldType} {ws : List Cond} {rm : Room} {Pc : Array Value → State → Prop} {Qc : Array Value → State → Outcome → State → Prop} {XC : String → State → State → Prop} {free : Addr → Prop} {Ts : List Cond} {own C : String} {b : Addr} {As rest : List Value} {g : JFrame}
theorem vx_runVX {hh : List (Nat × Nat × Nat × Nat)} (S : CallFix p m c cc nL s args Ts own) (hM : vx_Met l y ws rm Pc Qc XC mc ms free) (cw : vx_CVW R s args own C index y bytes maxL ret hh ws rm mc ms n) (hp : PreV s H C b Pc As)
    (hg : g.method = m) (hn : As.length = n) (hsize : g.locals.size = nL) (hstack : g.stack = As.reverse ++ .ref b :: rest) (hW : 2 * g.monitorRoom + (rest.map fun v => v.category).sum ≤ 8) (hdg : decode cc g.pc = .ok (.invokevirtual index, 3)) (hf : cells + mc ≤ R.cells ∧ slots + ms ≤ R.slots) :
    vx_Run p l e R s m args below meth c H locs cells slots mc ms g rest (Qc (Value.ref b :: As).toArray) XC free := by
  obtain ⟨⟨hrc, hrs, hfr, hlo, hws, hcw⟩, hcode, hini, hy, hlen, hl, hin, hse⟩ := cw
  have hK : vx_Back l R p e below s args y 3 8 (PreOf R mc ms Pc) (PostOf Qc mc ms free) (vx_Post XC mc ms free) := vx_backW (hh := hh) (bytes := bytes) (maxL := maxL) (ret := ret) hM hp.1 hrc hrs hfr hlo hws hcw (fun a' U hW => word_at hW (Or.inl (by first | rfl | simp [Cond.onTables, Cond.keeps, Cond.steady])) hini)
  obtain ⟨hx, hb, hml, ho, -⟩ := S
  obtain ⟨-, ⟨cellB, hcB, hoB, hclB⟩, hPc⟩ := hp
  intro T hT X
  rcases vx_callVX X hx (C := C) (hh := hh) (bytes := bytes) (maxL := maxL) (ret := ret) ho hl hin hse hcode hy hK (by rw [hT]; exact hcB) hoB hclB hg (hsize.trans hml.symm) (argsL := As) (rest := rest) (fun sig h => hn.trans (hlen sig h)) hstack hW (by rw [hb]; exact hdg)
    (fun vm₁ hW₁ => ⟨hf.1, hf.2, hPc (T.setVm vm₁) hT hW₁⟩) with ⟨v, vm₁, ⟨U', l2, c2, s2⟩, hW₁, X', ⟨g', mk, t, L, e1, e2, hq, h1, hL, h2, h3⟩, st⟩ | ⟨q, vm₁, ⟨U', l2, c2, s2⟩, hW₁, X', ⟨g', mk, t, L, E, ce, e1, e2, hq, hce, hcv, hcl, h1, hL, h2, h3⟩, st⟩
  · dsimp only [Pt.U, Pt.locs, Pt.cells, Pt.slots] at X' e1 e2 h1 h2 h3 st
    subst h1; subst h2; subst h3
    exact Or.inl ⟨v, (T.setVm vm₁).calling g' mk (Value.ref b :: As).toArray, t, U', L, hT, X', hL, e1, e2, hq, st⟩
  · dsimp only [Pt.U, Pt.locs, Pt.cells, Pt.slots] at X' e1 e2 h1 h2 h3 st hcl
    subst h1; subst h2; subst h3
    exact Or.inr ⟨q, (T.setVm vm₁).calling g' mk (Value.ref b :: As).toArray, t, U', L, E, ce, hT, X', hL, e1, e2, hq, hce, hcv, vx_cls hW₁ hcl, st⟩
theorem vx_runSX {hh : List (Nat × Nat × Nat × Nat)} (S : CallFix p m c cc nL s args Ts own) (hM : vx_Met l y ws rm Pc Qc XC mc ms free) (cw : vx_CSW R s args own index y bytes maxL ret hh ws rm mc ms n) (hp : PreS s H Pc As)
    (hg : g.method = m) (hn : As.length = n) (hsize : g.locals.size = nL) (hstack : g.stack = As.reverse ++ rest) (hW : 2 * g.monitorRoom + (rest.map fun v => v.category).sum ≤ 8) (hdg : decode cc g.pc = .ok (.invokestatic index, 3)) (hf : cells + mc ≤ R.cells ∧ slots + ms ≤ R.slots) :
    vx_Run p l e R s m args below meth c H locs cells slots mc ms g rest (Qc As.toArray) XC free := by
  obtain ⟨⟨hrc, hrs, hfr, hlo, hws, hcw⟩, hcode, hini, hy, hlen, hl, hstt⟩ := cw
  have hK : vx_Back l R p e below s args y 3 8 (PreOf R mc ms Pc) (PostOf Qc mc ms free) (vx_Post XC mc ms free) := vx_backW (hh := hh) (bytes := bytes) (maxL := maxL) (ret := ret) hM hp.1 hrc hrs hfr hlo hws hcw (fun a' U hW => word_at hW (Or.inl (by first | rfl | simp [Cond.onTables, Cond.keeps, Cond.steady])) hini)
  obtain ⟨hx, hb, hml, ho, -⟩ := S
  intro T hT X
  rcases vx_callSX X hx (hh := hh) (bytes := bytes) (maxL := maxL) (ret := ret) ho hl hstt hini hcode hy hK hg (hsize.trans hml.symm) (argsL := As) (rest := rest) (fun sig h => hn.trans (hlen sig h)) hstack hW (by rw [hb]; exact hdg)
    (fun vm₁ hW₁ => ⟨hf.1, hf.2, hp.2 (T.setVm vm₁) hT hW₁⟩) with ⟨v, vm₁, ⟨U', l2, c2, s2⟩, hW₁, X', ⟨g', mk, t, L, e1, e2, hq, h1, hL, h2, h3⟩, st⟩ | ⟨q, vm₁, ⟨U', l2, c2, s2⟩, hW₁, X', ⟨g', mk, t, L, E, ce, e1, e2, hq, hce, hcv, hcl, h1, hL, h2, h3⟩, st⟩
  · dsimp only [Pt.U, Pt.locs, Pt.cells, Pt.slots] at X' e1 e2 h1 h2 h3 st
    subst h1; subst h2; subst h3
    exact Or.inl ⟨v, (T.setVm vm₁).calling g' mk As.toArray, t, U', L, hT, X', hL, e1, e2, hq, st⟩
  · dsimp only [Pt.U, Pt.locs, Pt.cells, Pt.slots] at X' e1 e2 h1 h2 h3 st hcl
    subst h1; subst h2; subst h3
    exact Or.inr ⟨q, (T.setVm vm₁).calling g' mk As.toArray, t, U', L, E, ce, hT, X', hL, e1, e2, hq, hce, hcv, vx_cls hW₁ hcl, st⟩
end
end VXH
theorem vx_ofWH {l : Launch} {y : MethodName} {ws ws' : List Cond} {rm : Room} {Pc : Array Value → State → Prop} {Qc : Array Value → State → Outcome → State → Prop} {XC : String → State → State → Prop} {mc ms : Nat} {free : Addr → Prop} {cc : ByteArray} {maxL : Nat} {ret : Option FieldType} {hh : List (Nat × Nat × Nat × Nat)}
    (hy : plainName y.cls = true) (hw : ws = Cond.codeWith y cc maxL ret hh :: ws')
    (body : ∀ p e s m args below meth c s₁, BodyLoose p l y (headSpec ws rm) cc maxL ret e s m args below meth c s₁ → c.maxLocals = maxL → Pc args s →
      W p l e (headSpec ws rm).room s m args below meth c s.heap [] 0 0 (vx_MQ below Qc XC args s mc ms free) (entryFrame m args maxL)) : vx_Met l y ws rm Pc Qc XC mc ms free := by
  refine MetFree.of_bodyS (code := cc) (maxLocals := maxL) (ret := ret) hy ?_ ?_
  · intro args s m h hn
    obtain ⟨m9, meth, c, hn9, h1, h2, h3, h4, -, h5, h6, -⟩ := Cond.codeWith_spec (atoms_spec (ws := ws) h _ (by rw [hw]; exact List.mem_cons_self))
    cases hn.symm.trans hn9
    exact ⟨meth, c, h1, h2, h3, h4, h5, h6⟩
  · intro p e s m args below meth c s₁ B hml hP _
    have hh0 : s₁.heap = s.heap := by rw [B.state]; rfl
    obtain ⟨t, a1, o, b1, b2, b3⟩ := body p e s m args below meth c s₁ B hml hP s₁ hh0 (Stand.of_body B)
    exact ⟨t, o, a1, b1, b2, b3⟩
/-! ===== END ===== -/
end
section
/-! ===== BEGIN printed: names, fields, word lists, decode rows ===== -/
def RX0 : String := "CycleHouse$CycleCount"
def TX0 : u_T := fun k => match k with
  | _ => ("CycleHouse$CycleCount", "between", "[[I", true)
def tyX0 : Nat → FieldType := fun k => match k with
  | _ => .array (.array .int)
abbrev wsX00 : List Cond := u_ws RX0 TX0 1
theorem nmX0 : ∀ a, a < 1 → ∀ b, b < 1 → a ≠ b → (TX0 a).2.1 ≠ (TX0 b).2.1 := by decide +kernel
theorem tyX0_ok : ∀ k, k < 1 → parseFieldDescriptor (TX0 k).2.2.1 = some (tyX0 k) := by decide +kernel
abbrev cX0_init : ByteArray := prog_2_method_1_code
def yX0_init : MethodName := ⟨RX0, "<init>", "()V"⟩
abbrev cX0_count : ByteArray := prog_2_method_2_code
def yX0_count : MethodName := ⟨RX0, "count", "(LCycleHouse$Graph;)I"⟩
abbrev cX0_paths : ByteArray := prog_2_method_3_code
def yX0_paths : MethodName := ⟨RX0, "paths", "([[IIIII)I"⟩
def RX1 : String := "CycleHouse$ForestCount"
def TX1 : u_T := fun k => match k with
  | _ => ("CycleHouse$ForestCount", "table", "[[J", true)
def tyX1 : Nat → FieldType := fun k => match k with
  | _ => .array (.array .long)
abbrev wsX10 : List Cond := u_ws RX1 TX1 1
theorem nmX1 : ∀ a, a < 1 → ∀ b, b < 1 → a ≠ b → (TX1 a).2.1 ≠ (TX1 b).2.1 := by decide +kernel
theorem tyX1_ok : ∀ k, k < 1 → parseFieldDescriptor (TX1 k).2.2.1 = some (tyX1 k) := by decide +kernel
abbrev cX1_init : ByteArray := prog_3_method_1_code
def yX1_init : MethodName := ⟨RX1, "<init>", "()V"⟩
abbrev cX1_count : ByteArray := prog_3_method_2_code
def yX1_count : MethodName := ⟨RX1, "count", "(LCycleHouse$Graph;LCycleHouse$Groups;)J"⟩
abbrev cX1_determinant : ByteArray := prog_3_method_3_code
def yX1_determinant : MethodName := ⟨RX1, "determinant", "(I)J"⟩
abbrev cX1_eliminate : ByteArray := prog_3_method_4_code
def yX1_eliminate : MethodName := ⟨RX1, "eliminate", "(IIJ)V"⟩
def RX2 : String := "CycleHouse$Graph"
def TX2 : u_T := fun k => match k with
  | 0 => ("CycleHouse$Graph", "vertices", "I", false)
  | 1 => ("CycleHouse$Graph", "edges", "I", false)
  | 2 => ("CycleHouse$Graph", "from", "[I", true)
  | 3 => ("CycleHouse$Graph", "to", "[I", true)
  | _ => ("CycleHouse$Graph", "weight", "[I", true)
def tyX2 : Nat → FieldType := fun k => match k with
  | 0 => .int
  | 1 => .int
  | 2 => .array .int
  | 3 => .array .int
  | _ => .array .int
abbrev wsX20 : List Cond := u_ws RX2 TX2 5
theorem nmX2 : ∀ a, a < 5 → ∀ b, b < 5 → a ≠ b → (TX2 a).2.1 ≠ (TX2 b).2.1 := by decide +kernel
theorem tyX2_ok : ∀ k, k < 5 → parseFieldDescriptor (TX2 k).2.2.1 = some (tyX2 k) := by decide +kernel
abbrev cX2_init : ByteArray := prog_4_method_1_code
def yX2_init : MethodName := ⟨RX2, "<init>", "()V"⟩
abbrev cX2_begin : ByteArray := prog_4_method_2_code
def yX2_begin : MethodName := ⟨RX2, "begin", "(I)V"⟩
abbrev cX2_hasVertex : ByteArray := prog_4_method_3_code
def yX2_hasVertex : MethodName := ⟨RX2, "hasVertex", "(I)Z"⟩
abbrev cX2_append : ByteArray := prog_4_method_4_code
def yX2_append : MethodName := ⟨RX2, "append", "(III)I"⟩
abbrev cX2_removeLast : ByteArray := prog_4_method_5_code
def yX2_removeLast : MethodName := ⟨RX2, "removeLast", "()I"⟩
abbrev cX2_isEven : ByteArray := prog_4_method_6_code
def yX2_isEven : MethodName := ⟨RX2, "isEven", "(J)Z"⟩
abbrev cX2_weigh : ByteArray := prog_4_method_7_code
def yX2_weigh : MethodName := ⟨RX2, "weigh", "(J)J"⟩
abbrev cX2_gain : ByteArray := prog_4_method_8_code
def yX2_gain : MethodName := ⟨RX2, "gain", "(JJ)J"⟩
abbrev cX2_edgesApartFrom : ByteArray := prog_4_method_9_code
def yX2_edgesApartFrom : MethodName := ⟨RX2, "edgesApartFrom", "(I)J"⟩
def RX3 : String := "CycleHouse$Groups"
def TX3 : u_T := fun k => match k with
  | 0 => ("CycleHouse$Groups", "vertices", "I", false)
  | 1 => ("CycleHouse$Groups", "count", "I", false)
  | 2 => ("CycleHouse$Groups", "name", "[I", true)
  | _ => ("CycleHouse$Groups", "way", "[J", true)
def tyX3 : Nat → FieldType := fun k => match k with
  | 0 => .int
  | 1 => .int
  | 2 => .array .int
  | _ => .array .long
abbrev wsX30 : List Cond := u_ws RX3 TX3 4
theorem nmX3 : ∀ a, a < 4 → ∀ b, b < 4 → a ≠ b → (TX3 a).2.1 ≠ (TX3 b).2.1 := by decide +kernel
theorem tyX3_ok : ∀ k, k < 4 → parseFieldDescriptor (TX3 k).2.2.1 = some (tyX3 k) := by decide +kernel
abbrev cX3_init : ByteArray := prog_5_method_1_code
def yX3_init : MethodName := ⟨RX3, "<init>", "()V"⟩
abbrev cX3_part : ByteArray := prog_5_method_2_code
def yX3_part : MethodName := ⟨RX3, "part", "(I)V"⟩
abbrev cX3_together : ByteArray := prog_5_method_3_code
def yX3_together : MethodName := ⟨RX3, "together", "(II)Z"⟩
abbrev cX3_join : ByteArray := prog_5_method_4_code
def yX3_join : MethodName := ⟨RX3, "join", "(LCycleHouse$Graph;I)J"⟩
abbrev cX3_merge : ByteArray := prog_5_method_5_code
def yX3_merge : MethodName := ⟨RX3, "merge", "(IIJ)V"⟩
def RX4 : String := "CycleHouse$LightBasis"
def TX4 : u_T := fun k => match k with
  | 0 => ("CycleHouse$LightBasis", "size", "I", false)
  | 1 => ("CycleHouse$LightBasis", "ring", "[J", true)
  | 2 => ("CycleHouse$LightBasis", "weight", "[J", true)
  | 3 => ("CycleHouse$LightBasis", "candidates", "I", false)
  | 4 => ("CycleHouse$LightBasis", "left", "[J", true)
  | _ => ("CycleHouse$LightBasis", "leftWeight", "[J", true)
def tyX4 : Nat → FieldType := fun k => match k with
  | 0 => .int
  | 1 => .array .long
  | 2 => .array .long
  | 3 => .int
  | 4 => .array .long
  | _ => .array .long
abbrev wsX40 : List Cond := u_ws RX4 TX4 6
theorem nmX4 : ∀ a, a < 6 → ∀ b, b < 6 → a ≠ b → (TX4 a).2.1 ≠ (TX4 b).2.1 := by decide +kernel
theorem tyX4_ok : ∀ k, k < 6 → parseFieldDescriptor (TX4 k).2.2.1 = some (tyX4 k) := by decide +kernel
abbrev cX4_init : ByteArray := prog_6_method_1_code
def yX4_init : MethodName := ⟨RX4, "<init>", "()V"⟩
abbrev cX4_find : ByteArray := prog_6_method_2_code
def yX4_find : MethodName := ⟨RX4, "find", "(LCycleHouse$Graph;LCycleHouse$Ways;)V"⟩
abbrev cX4_isSumOfLighter : ByteArray := prog_6_method_3_code
def yX4_isSumOfLighter : MethodName := ⟨RX4, "isSumOfLighter", "(JJ)Z"⟩
abbrev cX4_gatherAll : ByteArray := prog_6_method_4_code
def yX4_gatherAll : MethodName := ⟨RX4, "gatherAll", "(LCycleHouse$Graph;LCycleHouse$Ways;)V"⟩
abbrev cX4_gather : ByteArray := prog_6_method_5_code
def yX4_gather : MethodName := ⟨RX4, "gather", "(LCycleHouse$Graph;LCycleHouse$Ways;I)V"⟩
abbrev cX4_lightestLeft : ByteArray := prog_6_method_6_code
def yX4_lightestLeft : MethodName := ⟨RX4, "lightestLeft", "()I"⟩
abbrev cX4_strike : ByteArray := prog_6_method_7_code
def yX4_strike : MethodName := ⟨RX4, "strike", "(J)V"⟩
abbrev cX4_mark : ByteArray := prog_6_method_8_code
def yX4_mark : MethodName := ⟨RX4, "mark", "(J)J"⟩
def RX5 : String := "CycleHouse$SetList"
def TX5 : u_T := fun k => match k with
  | 0 => ("CycleHouse$SetList", "sets", "I", false)
  | 1 => ("CycleHouse$SetList", "rank", "I", false)
  | _ => ("CycleHouse$SetList", "row", "[J", true)
def tyX5 : Nat → FieldType := fun k => match k with
  | 0 => .int
  | 1 => .int
  | _ => .array .long
abbrev wsX50 : List Cond := u_ws RX5 TX5 3
theorem nmX5 : ∀ a, a < 3 → ∀ b, b < 3 → a ≠ b → (TX5 a).2.1 ≠ (TX5 b).2.1 := by decide +kernel
theorem tyX5_ok : ∀ k, k < 3 → parseFieldDescriptor (TX5 k).2.2.1 = some (tyX5 k) := by decide +kernel
abbrev cX5_init : ByteArray := prog_7_method_1_code
def yX5_init : MethodName := ⟨RX5, "<init>", "()V"⟩
abbrev cX5_append : ByteArray := prog_7_method_2_code
def yX5_append : MethodName := ⟨RX5, "append", "(J)I"⟩
abbrev cX5_empty : ByteArray := prog_7_method_3_code
def yX5_empty : MethodName := ⟨RX5, "empty", "()V"⟩
abbrev cX5_rest : ByteArray := prog_7_method_4_code
def yX5_rest : MethodName := ⟨RX5, "rest", "(J)J"⟩
def RX6 : String := "CycleHouse$Ways"
def TX6 : u_T := fun k => match k with
  | 0 => ("CycleHouse$Ways", "length", "[J", true)
  | _ => ("CycleHouse$Ways", "way", "[J", true)
def tyX6 : Nat → FieldType := fun k => match k with
  | 0 => .array .long
  | _ => .array .long
abbrev wsX60 : List Cond := u_ws RX6 TX6 2
theorem nmX6 : ∀ a, a < 2 → ∀ b, b < 2 → a ≠ b → (TX6 a).2.1 ≠ (TX6 b).2.1 := by decide +kernel
theorem tyX6_ok : ∀ k, k < 2 → parseFieldDescriptor (TX6 k).2.2.1 = some (tyX6 k) := by decide +kernel
abbrev cX6_init : ByteArray := prog_8_method_1_code
def yX6_init : MethodName := ⟨RX6, "<init>", "()V"⟩
abbrev cX6_seek : ByteArray := prog_8_method_2_code
def yX6_seek : MethodName := ⟨RX6, "seek", "(LCycleHouse$Graph;II)V"⟩
abbrev cX6_reaches : ByteArray := prog_8_method_3_code
def yX6_reaches : MethodName := ⟨RX6, "reaches", "(I)Z"⟩
abbrev cX6_shortenAll : ByteArray := prog_8_method_4_code
def yX6_shortenAll : MethodName := ⟨RX6, "shortenAll", "(LCycleHouse$Graph;I)Z"⟩
abbrev cX6_shorten : ByteArray := prog_8_method_5_code
def yX6_shorten : MethodName := ⟨RX6, "shorten", "(IIII)Z"⟩
def RX7 : String := "CycleHouse"
def TX7 : u_T := fun k => match k with
  | 0 => ("CycleHouse", "graph", "LCycleHouse$Graph;", true)
  | 1 => ("CycleHouse", "list", "LCycleHouse$SetList;", true)
  | 2 => ("CycleHouse", "groups", "LCycleHouse$Groups;", true)
  | 3 => ("CycleHouse", "ways", "LCycleHouse$Ways;", true)
  | 4 => ("CycleHouse", "lightBasis", "LCycleHouse$LightBasis;", true)
  | 5 => ("CycleHouse", "forestCount", "LCycleHouse$ForestCount;", true)
  | 6 => ("CycleHouse", "cycleCount", "LCycleHouse$CycleCount;", true)
  | _ => ("CycleHouse", "rings", "[J", true)
def tyX7 : Nat → FieldType := fun k => match k with
  | 0 => .object "CycleHouse$Graph"
  | 1 => .object "CycleHouse$SetList"
  | 2 => .object "CycleHouse$Groups"
  | 3 => .object "CycleHouse$Ways"
  | 4 => .object "CycleHouse$LightBasis"
  | 5 => .object "CycleHouse$ForestCount"
  | 6 => .object "CycleHouse$CycleCount"
  | _ => .array .long
abbrev wsX70 : List Cond := u_ws RX7 TX7 8
theorem nmX7 : ∀ a, a < 8 → ∀ b, b < 8 → a ≠ b → (TX7 a).2.1 ≠ (TX7 b).2.1 := by decide +kernel
theorem tyX7_ok : ∀ k, k < 8 → parseFieldDescriptor (TX7 k).2.2.1 = some (tyX7 k) := by decide +kernel
abbrev cX7_init : ByteArray := prog_1_method_1_code
def yX7_init : MethodName := ⟨RX7, "<init>", "()V"⟩
abbrev cX7_reset : ByteArray := prog_1_method_2_code
def yX7_reset : MethodName := ⟨RX7, "reset", "(I)I"⟩
abbrev cX7_edge : ByteArray := prog_1_method_3_code
def yX7_edge : MethodName := ⟨RX7, "edge", "(III)I"⟩
abbrev cX7_drop : ByteArray := prog_1_method_4_code
def yX7_drop : MethodName := ⟨RX7, "drop", "()I"⟩
abbrev cX7_forests : ByteArray := prog_1_method_5_code
def yX7_forests : MethodName := ⟨RX7, "forests", "(J)J"⟩
abbrev cX7_lightest : ByteArray := prog_1_method_6_code
def yX7_lightest : MethodName := ⟨RX7, "lightest", "(J)J"⟩
abbrev cX7_isCycle : ByteArray := prog_1_method_7_code
def yX7_isCycle : MethodName := ⟨RX7, "isCycle", "(J)I"⟩
abbrev cX7_through : ByteArray := prog_1_method_8_code
def yX7_through : MethodName := ⟨RX7, "through", "(I)J"⟩
abbrev cX7_basis : ByteArray := prog_1_method_9_code
def yX7_basis : MethodName := ⟨RX7, "basis", "(I)J"⟩
abbrev cX7_belongs : ByteArray := prog_1_method_10_code
def yX7_belongs : MethodName := ⟨RX7, "belongs", "(J)Z"⟩
abbrev cX7_cycles : ByteArray := prog_1_method_11_code
def yX7_cycles : MethodName := ⟨RX7, "cycles", "()I"⟩
abbrev cX7_light : ByteArray := prog_1_method_12_code
def yX7_light : MethodName := ⟨RX7, "light", "(J)I"⟩
abbrev cX7_add : ByteArray := prog_1_method_13_code
def yX7_add : MethodName := ⟨RX7, "add", "(J)I"⟩
abbrev cX7_clear : ByteArray := prog_1_method_14_code
def yX7_clear : MethodName := ⟨RX7, "clear", "()I"⟩
abbrev cX7_spans : ByteArray := prog_1_method_15_code
def yX7_spans : MethodName := ⟨RX7, "spans", "(J)Z"⟩
abbrev cX7_look : ByteArray := prog_1_method_16_code
def yX7_look : MethodName := ⟨RX7, "look", "(I)I"⟩
abbrev cX7_checkEdges : ByteArray := prog_1_method_17_code
def yX7_checkEdges : MethodName := ⟨RX7, "checkEdges", "(J)V"⟩
abbrev cX7_checkListed : ByteArray := prog_1_method_18_code
def yX7_checkListed : MethodName := ⟨RX7, "checkListed", "(J)V"⟩
abbrev cX7_has : ByteArray := prog_1_method_19_code
def yX7_has : MethodName := ⟨RX7, "has", "(JI)Z"⟩
abbrev cX7_joinSet : ByteArray := prog_1_method_20_code
def yX7_joinSet : MethodName := ⟨RX7, "joinSet", "(J)I"⟩
abbrev cX7_joinWhole : ByteArray := prog_1_method_21_code
def yX7_joinWhole : MethodName := ⟨RX7, "joinWhole", "()I"⟩
abbrev cX7_fillRings : ByteArray := prog_1_method_22_code
def yX7_fillRings : MethodName := ⟨RX7, "fillRings", "()I"⟩
abbrev cX7_weightOfLightestJoins : ByteArray := prog_1_method_23_code
def yX7_weightOfLightestJoins : MethodName := ⟨RX7, "weightOfLightestJoins", "()J"⟩
abbrev cX7_lightestJoin : ByteArray := prog_1_method_24_code
def yX7_lightestJoin : MethodName := ⟨RX7, "lightestJoin", "()I"⟩
abbrev cX7_countGroups : ByteArray := prog_1_method_25_code
def yX7_countGroups : MethodName := ⟨RX7, "countGroups", "()I"⟩
abbrev cX7_countEdgesInNoCycle : ByteArray := prog_1_method_26_code
def yX7_countEdgesInNoCycle : MethodName := ⟨RX7, "countEdgesInNoCycle", "()I"⟩
abbrev cX7_hasOddCycle : ByteArray := prog_1_method_27_code
def yX7_hasOddCycle : MethodName := ⟨RX7, "hasOddCycle", "()Z"⟩
abbrev cX7_countCuttingVertices : ByteArray := prog_1_method_28_code
def yX7_countCuttingVertices : MethodName := ⟨RX7, "countCuttingVertices", "()I"⟩
def RX8 : String := "CycleHouseModel"
def TX8 : u_T := fun k => match k with
  | 0 => ("CycleHouseModel", "thrown", "I", false)
  | 1 => ("CycleHouseModel", "n", "I", false)
  | 2 => ("CycleHouseModel", "m", "I", false)
  | 3 => ("CycleHouseModel", "from", "[I", true)
  | 4 => ("CycleHouseModel", "to", "[I", true)
  | 5 => ("CycleHouseModel", "weight", "[I", true)
  | 6 => ("CycleHouseModel", "list", "[J", true)
  | 7 => ("CycleHouseModel", "listed", "I", false)
  | 8 => ("CycleHouseModel", "group", "[I", true)
  | 9 => ("CycleHouseModel", "ways", "[J", true)
  | 10 => ("CycleHouseModel", "closed", "I", false)
  | 11 => ("CycleHouseModel", "closing", "[J", true)
  | 12 => ("CycleHouseModel", "closer", "[I", true)
  | 13 => ("CycleHouseModel", "elements", "[J", true)
  | 14 => ("CycleHouseModel", "weights", "[J", true)
  | 15 => ("CycleHouseModel", "rows", "[J", true)
  | 16 => ("CycleHouseModel", "rowed", "I", false)
  | 17 => ("CycleHouseModel", "matrix", "[J", true)
  | 18 => ("CycleHouseModel", "place", "[I", true)
  | _ => ("CycleHouseModel", "reached", "[Z", true)
def tyX8 : Nat → FieldType := fun k => match k with
  | 0 => .int
  | 1 => .int
  | 2 => .int
  | 3 => .array .int
  | 4 => .array .int
  | 5 => .array .int
  | 6 => .array .long
  | 7 => .int
  | 8 => .array .int
  | 9 => .array .long
  | 10 => .int
  | 11 => .array .long
  | 12 => .array .int
  | 13 => .array .long
  | 14 => .array .long
  | 15 => .array .long
  | 16 => .int
  | 17 => .array .long
  | 18 => .array .int
  | _ => .array .boolean
abbrev wsX80 : List Cond := u_ws RX8 TX8 20
theorem nmX8 : ∀ a, a < 20 → ∀ b, b < 20 → a ≠ b → (TX8 a).2.1 ≠ (TX8 b).2.1 := by decide +kernel
theorem tyX8_ok : ∀ k, k < 20 → parseFieldDescriptor (TX8 k).2.2.1 = some (tyX8 k) := by decide +kernel
abbrev cX8_init : ByteArray := prog_10_method_1_code
def yX8_init : MethodName := ⟨RX8, "<init>", "()V"⟩
abbrev cX8_thrown : ByteArray := prog_10_method_2_code
def yX8_thrown : MethodName := ⟨RX8, "thrown", "()I"⟩
abbrev cX8_throwing : ByteArray := prog_10_method_3_code
def yX8_throwing : MethodName := ⟨RX8, "throwing", "(ZZ)Z"⟩
abbrev cX8_isVertex : ByteArray := prog_10_method_4_code
def yX8_isVertex : MethodName := ⟨RX8, "isVertex", "(I)Z"⟩
abbrev cX8_isSet : ByteArray := prog_10_method_5_code
def yX8_isSet : MethodName := ⟨RX8, "isSet", "(J)Z"⟩
abbrev cX8_beginGroups : ByteArray := prog_10_method_6_code
def yX8_beginGroups : MethodName := ⟨RX8, "beginGroups", "()V"⟩
abbrev cX8_joins : ByteArray := prog_10_method_7_code
def yX8_joins : MethodName := ⟨RX8, "joins", "(I)Z"⟩
abbrev cX8_groups : ByteArray := prog_10_method_8_code
def yX8_groups : MethodName := ⟨RX8, "groups", "()I"⟩
abbrev cX8_dimension : ByteArray := prog_10_method_9_code
def yX8_dimension : MethodName := ⟨RX8, "dimension", "()I"⟩
abbrev cX8_reset : ByteArray := prog_10_method_10_code
def yX8_reset : MethodName := ⟨RX8, "reset", "(I)I"⟩
abbrev cX8_edge : ByteArray := prog_10_method_11_code
def yX8_edge : MethodName := ⟨RX8, "edge", "(III)I"⟩
abbrev cX8_drop : ByteArray := prog_10_method_12_code
def yX8_drop : MethodName := ⟨RX8, "drop", "()I"⟩
abbrev cX8_weightOf : ByteArray := prog_10_method_13_code
def yX8_weightOf : MethodName := ⟨RX8, "weightOf", "(J)J"⟩
abbrev cX8_beginsWith : ByteArray := prog_10_method_14_code
def yX8_beginsWith : MethodName := ⟨RX8, "beginsWith", "(J)Z"⟩
abbrev cX8_forests : ByteArray := prog_10_method_15_code
def yX8_forests : MethodName := ⟨RX8, "forests", "(J)J"⟩
abbrev cX8_isFirst : ByteArray := prog_10_method_16_code
def yX8_isFirst : MethodName := ⟨RX8, "isFirst", "(I)Z"⟩
abbrev cX8_hang : ByteArray := prog_10_method_17_code
def yX8_hang : MethodName := ⟨RX8, "hang", "(II)Z"⟩
abbrev cX8_lay : ByteArray := prog_10_method_18_code
def yX8_lay : MethodName := ⟨RX8, "lay", "(II)V"⟩
abbrev cX8_determinant : ByteArray := prog_10_method_19_code
def yX8_determinant : MethodName := ⟨RX8, "determinant", "(I)J"⟩
abbrev cX8_lightest : ByteArray := prog_10_method_20_code
def yX8_lightest : MethodName := ⟨RX8, "lightest", "(J)J"⟩
abbrev cX8_spread : ByteArray := prog_10_method_21_code
def yX8_spread : MethodName := ⟨RX8, "spread", "()I"⟩
abbrev cX8_endsAt : ByteArray := prog_10_method_22_code
def yX8_endsAt : MethodName := ⟨RX8, "endsAt", "(JI)I"⟩
abbrev cX8_isEven : ByteArray := prog_10_method_23_code
def yX8_isEven : MethodName := ⟨RX8, "isEven", "(J)Z"⟩
abbrev cX8_isRing : ByteArray := prog_10_method_24_code
def yX8_isRing : MethodName := ⟨RX8, "isRing", "(J)Z"⟩
abbrev cX8_isCycle : ByteArray := prog_10_method_25_code
def yX8_isCycle : MethodName := ⟨RX8, "isCycle", "(J)I"⟩
abbrev cX8_through : ByteArray := prog_10_method_26_code
def yX8_through : MethodName := ⟨RX8, "through", "(I)J"⟩
abbrev cX8_rest : ByteArray := prog_10_method_27_code
def yX8_rest : MethodName := ⟨RX8, "rest", "(J)J"⟩
abbrev cX8_take : ByteArray := prog_10_method_28_code
def yX8_take : MethodName := ⟨RX8, "take", "(J)Z"⟩
abbrev cX8_basis : ByteArray := prog_10_method_29_code
def yX8_basis : MethodName := ⟨RX8, "basis", "(I)J"⟩
abbrev cX8_numberOf : ByteArray := prog_10_method_30_code
def yX8_numberOf : MethodName := ⟨RX8, "numberOf", "(J)I"⟩
abbrev cX8_belongs : ByteArray := prog_10_method_31_code
def yX8_belongs : MethodName := ⟨RX8, "belongs", "(J)Z"⟩
abbrev cX8_cycles : ByteArray := prog_10_method_32_code
def yX8_cycles : MethodName := ⟨RX8, "cycles", "()I"⟩
abbrev cX8_light : ByteArray := prog_10_method_33_code
def yX8_light : MethodName := ⟨RX8, "light", "(J)I"⟩
abbrev cX8_add : ByteArray := prog_10_method_34_code
def yX8_add : MethodName := ⟨RX8, "add", "(J)I"⟩
abbrev cX8_clear : ByteArray := prog_10_method_35_code
def yX8_clear : MethodName := ⟨RX8, "clear", "()I"⟩
abbrev cX8_takeList : ByteArray := prog_10_method_36_code
def yX8_takeList : MethodName := ⟨RX8, "takeList", "()V"⟩
abbrev cX8_spans : ByteArray := prog_10_method_37_code
def yX8_spans : MethodName := ⟨RX8, "spans", "(J)Z"⟩
abbrev cX8_alone : ByteArray := prog_10_method_38_code
def yX8_alone : MethodName := ⟨RX8, "alone", "()I"⟩
abbrev cX8_areEven : ByteArray := prog_10_method_39_code
def yX8_areEven : MethodName := ⟨RX8, "areEven", "()Z"⟩
abbrev cX8_parting : ByteArray := prog_10_method_40_code
def yX8_parting : MethodName := ⟨RX8, "parting", "()I"⟩
abbrev cX8_rank : ByteArray := prog_10_method_41_code
def yX8_rank : MethodName := ⟨RX8, "rank", "()I"⟩
abbrev cX8_look : ByteArray := prog_10_method_42_code
def yX8_look : MethodName := ⟨RX8, "look", "(I)I"⟩
def RJ6 : String := "java/lang/Integer"
def TJ6 : u_T := fun k => match k with
  | _ => ("", "", "", false)
def tyJ6 : Nat → FieldType := fun k => match k with
  | _ => .int
abbrev wsJ60 : List Cond := u_ws RJ6 TJ6 0
theorem nmJ6 : ∀ a, a < 0 → ∀ b, b < 0 → a ≠ b → (TJ6 a).2.1 ≠ (TJ6 b).2.1 := by decide +kernel
theorem tyJ6_ok : ∀ k, k < 0 → parseFieldDescriptor (TJ6 k).2.2.1 = some (tyJ6 k) := by decide +kernel
abbrev cJ6_numberOfTrailingZeros_0f7a4 : ByteArray := prog_14_method_48_code
def yJ6_numberOfTrailingZeros_0f7a4 : MethodName := ⟨RJ6, "numberOfTrailingZeros", "(I)I"⟩
def RJ13 : String := "java/lang/Long"
def TJ13 : u_T := fun k => match k with
  | _ => ("", "", "", false)
def tyJ13 : Nat → FieldType := fun k => match k with
  | _ => .int
abbrev wsJ130 : List Cond := u_ws RJ13 TJ13 0
theorem nmJ13 : ∀ a, a < 0 → ∀ b, b < 0 → a ≠ b → (TJ13 a).2.1 ≠ (TJ13 b).2.1 := by decide +kernel
theorem tyJ13_ok : ∀ k, k < 0 → parseFieldDescriptor (TJ13 k).2.2.1 = some (tyJ13 k) := by decide +kernel
abbrev cJ13_numberOfTrailingZeros_95d88 : ByteArray := prog_15_method_49_code
def yJ13_numberOfTrailingZeros_95d88 : MethodName := ⟨RJ13, "numberOfTrailingZeros", "(J)I"⟩
abbrev cJ13_bitCount_95d88 : ByteArray := prog_15_method_50_code
def yJ13_bitCount_95d88 : MethodName := ⟨RJ13, "bitCount", "(J)I"⟩
def RJ0 : String := "java/lang/String"
def TJ0 : u_T := fun k => match k with
  | _ => ("", "", "", false)
def tyJ0 : Nat → FieldType := fun k => match k with
  | _ => .int
abbrev wsJ00 : List Cond := u_ws RJ0 TJ0 0
theorem nmJ0 : ∀ a, a < 0 → ∀ b, b < 0 → a ≠ b → (TJ0 a).2.1 ≠ (TJ0 b).2.1 := by decide +kernel
theorem tyJ0_ok : ∀ k, k < 0 → parseFieldDescriptor (TJ0 k).2.2.1 = some (tyJ0 k) := by decide +kernel
def RJ7 : String := "java/util/Arrays"
def TJ7 : u_T := fun k => match k with
  | _ => ("", "", "", false)
def tyJ7 : Nat → FieldType := fun k => match k with
  | _ => .int
abbrev wsJ70 : List Cond := u_ws RJ7 TJ7 0
theorem nmJ7 : ∀ a, a < 0 → ∀ b, b < 0 → a ≠ b → (TJ7 a).2.1 ≠ (TJ7 b).2.1 := by decide +kernel
theorem tyJ7_ok : ∀ k, k < 0 → parseFieldDescriptor (TJ7 k).2.2.1 = some (tyJ7 k) := by decide +kernel
abbrev cJ7_fill_d0a16 : ByteArray := prog_19_method_101_code
def yJ7_fill_d0a16 : MethodName := ⟨RJ7, "fill", "([JJ)V"⟩
abbrev cJ7_fill_53178 : ByteArray := prog_19_method_103_code
def yJ7_fill_53178 : MethodName := ⟨RJ7, "fill", "([II)V"⟩
def RL : String := "CycleHouseLaw"
abbrev cL_reset : ByteArray := method_3_code
def yL_reset : MethodName := ⟨RL, "reset", "(LCycleHouse;I[J)I"⟩
abbrev cL_edge : ByteArray := method_4_code
def yL_edge : MethodName := ⟨RL, "edge", "(LCycleHouse;III[J)I"⟩
abbrev cL_drop : ByteArray := method_5_code
def yL_drop : MethodName := ⟨RL, "drop", "(LCycleHouse;[J)I"⟩
abbrev cL_forests : ByteArray := method_6_code
def yL_forests : MethodName := ⟨RL, "forests", "(LCycleHouse;J[J)I"⟩
abbrev cL_lightest : ByteArray := method_7_code
def yL_lightest : MethodName := ⟨RL, "lightest", "(LCycleHouse;J[J)I"⟩
abbrev cL_isCycle : ByteArray := method_8_code
def yL_isCycle : MethodName := ⟨RL, "isCycle", "(LCycleHouse;J[J)I"⟩
abbrev cL_through : ByteArray := method_9_code
def yL_through : MethodName := ⟨RL, "through", "(LCycleHouse;I[J)I"⟩
abbrev cL_basis : ByteArray := method_10_code
def yL_basis : MethodName := ⟨RL, "basis", "(LCycleHouse;I[J)I"⟩
abbrev cL_belongs : ByteArray := method_11_code
def yL_belongs : MethodName := ⟨RL, "belongs", "(LCycleHouse;J[J)I"⟩
abbrev cL_add : ByteArray := method_12_code
def yL_add : MethodName := ⟨RL, "add", "(LCycleHouse;J[J)I"⟩
abbrev cL_spans : ByteArray := method_13_code
def yL_spans : MethodName := ⟨RL, "spans", "(LCycleHouse;J[J)I"⟩
abbrev cL_look : ByteArray := method_14_code
def yL_look : MethodName := ⟨RL, "look", "(LCycleHouse;I[J)I"⟩
abbrev cL_law : ByteArray := code
def yL_law : MethodName := ⟨RL, "law", "([I)Z"⟩
def wsX0_init : List Cond := .code yX0_init cX0_init 1 none :: ([.methodLink RX0 3 objectInit, .instanceMethod objectInit, .code objectInit ⟨#[0xb1]⟩ 1 none, .classLink RX0 9 "[[I", .arrayClass .int, .fieldLink RX0 11 "CycleHouse$CycleCount" "between" "[[I"] ++ wsX00)
def wsJ7_fill_53178 : List Cond := .code yJ7_fill_53178 cJ7_fill_53178 4 none :: ([])
def wsX0_paths : List Cond := .code yX0_paths cX0_paths 7 (some .int) :: ([.methodLink RX0 35 yX0_paths, .static yX0_paths, .initialized RX0])
def wsX0_count : List Cond := .code yX0_count cX0_count 6 (some .int) :: ([.fieldLink RX0 11 "CycleHouse$CycleCount" "between" "[[I", .methodLink RX0 16 yJ7_fill_53178, .static yJ7_fill_53178, .initialized RJ7, .code yJ7_fill_53178 cJ7_fill_53178 4 none, .methodLink RX0 35 yX0_paths, .static yX0_paths, .initialized RX0, .code yX0_paths cX0_paths 7 (some .int)] ++ wsX00 ++ wsX20)
def wsX1_init : List Cond := .code yX1_init cX1_init 1 none :: ([.methodLink RX1 3 objectInit, .instanceMethod objectInit, .code objectInit ⟨#[0xb1]⟩ 1 none, .classLink RX1 9 "[[J", .arrayClass .long, .fieldLink RX1 11 "CycleHouse$ForestCount" "table" "[[J"] ++ wsX10)
def wsJ7_fill_d0a16 : List Cond := .code yJ7_fill_d0a16 cJ7_fill_d0a16 5 none :: ([])
def wsX1_eliminate : List Cond := .code yX1_eliminate cX1_eliminate 7 none :: ([.fieldLink RX1 11 "CycleHouse$ForestCount" "table" "[[J"] ++ wsX10)
def wsX1_determinant : List Cond := .code yX1_determinant cX1_determinant 7 (some .long) :: ([.fieldLink RX1 11 "CycleHouse$ForestCount" "table" "[[J", .methodLink RX1 47 yX1_eliminate, .instanceMethod yX1_eliminate, .selects RX1 yX1_eliminate yX1_eliminate, .initialized RX1, .code yX1_eliminate cX1_eliminate 7 none] ++ wsX10)
def wsX1_count : List Cond := .code yX1_count cX1_count 6 (some .long) :: ([.fieldLink RX1 11 "CycleHouse$ForestCount" "table" "[[J", .methodLink RX1 22 yJ7_fill_d0a16, .static yJ7_fill_d0a16, .initialized RJ7, .code yJ7_fill_d0a16 cJ7_fill_d0a16 5 none, .methodLink RX1 43 yX1_determinant, .instanceMethod yX1_determinant, .selects RX1 yX1_determinant yX1_determinant, .initialized RX1, .code yX1_determinant cX1_determinant 7 (some .long), .methodLink RX1 47 yX1_eliminate, .instanceMethod yX1_eliminate, .selects RX1 yX1_eliminate yX1_eliminate, .code yX1_eliminate cX1_eliminate 7 none] ++ wsX20 ++ wsX10 ++ wsX30)
def wsX2_init : List Cond := .code yX2_init cX2_init 1 none :: ([.methodLink RX2 3 objectInit, .instanceMethod objectInit, .code objectInit ⟨#[0xb1]⟩ 1 none, .fieldLink RX2 9 "CycleHouse$Graph" "vertices" "I", .arrayClass .int, .fieldLink RX2 15 "CycleHouse$Graph" "from" "[I", .fieldLink RX2 19 "CycleHouse$Graph" "to" "[I", .fieldLink RX2 22 "CycleHouse$Graph" "weight" "[I"] ++ wsX20)
def wsX2_begin : List Cond := .code yX2_begin cX2_begin 2 none :: ([.fieldLink RX2 9 "CycleHouse$Graph" "vertices" "I", .fieldLink RX2 25 "CycleHouse$Graph" "edges" "I"] ++ wsX20)
def wsX2_hasVertex : List Cond := .code yX2_hasVertex cX2_hasVertex 2 (some .boolean) :: ([.fieldLink RX2 9 "CycleHouse$Graph" "vertices" "I"] ++ wsX20)
def wsX2_append : List Cond := .code yX2_append cX2_append 5 (some .int) :: ([.fieldLink RX2 25 "CycleHouse$Graph" "edges" "I", .fieldLink RX2 15 "CycleHouse$Graph" "from" "[I", .fieldLink RX2 19 "CycleHouse$Graph" "to" "[I", .fieldLink RX2 22 "CycleHouse$Graph" "weight" "[I"] ++ wsX20)
def wsX2_removeLast : List Cond := .code yX2_removeLast cX2_removeLast 1 (some .int) :: ([.fieldLink RX2 25 "CycleHouse$Graph" "edges" "I"] ++ wsX20)
def wsX7_has : List Cond := .code yX7_has cX7_has 3 (some .boolean) :: ([])
def wsX2_isEven : List Cond := .code yX2_isEven cX2_isEven 5 (some .boolean) :: ([.fieldLink RX2 25 "CycleHouse$Graph" "edges" "I", .fieldLink RX2 15 "CycleHouse$Graph" "from" "[I", .fieldLink RX2 19 "CycleHouse$Graph" "to" "[I", .static yX7_has, .initialized RX7, .code yX7_has cX7_has 3 (some .boolean)] ++ wsX20)
def wsJ13_bitCount_95d88 : List Cond := .code yJ13_bitCount_95d88 cJ13_bitCount_95d88 2 (some .int) :: ([.constantLong RJ13 314 (6148914691236517205), .constantLong RJ13 316 (3689348814741910323), .constantLong RJ13 318 (1085102592571150095)])
def wsJ6_numberOfTrailingZeros_0f7a4 : List Cond := .code yJ6_numberOfTrailingZeros_0f7a4 cJ6_numberOfTrailingZeros_0f7a4 2 (some .int) :: ([.constant RJ6 264 (65536)])
def wsJ13_numberOfTrailingZeros_95d88 : List Cond := .code yJ13_numberOfTrailingZeros_95d88 cJ13_numberOfTrailingZeros_95d88 3 (some .int) :: ([.methodLink RJ13 311 yJ6_numberOfTrailingZeros_0f7a4, .static yJ6_numberOfTrailingZeros_0f7a4, .initialized RJ6, .code yJ6_numberOfTrailingZeros_0f7a4 cJ6_numberOfTrailingZeros_0f7a4 2 (some .int), .constant RJ6 264 (65536)])
def wsX2_gain : List Cond := .code yX2_gain cX2_gain 11 (some .long) :: ([.fieldLink RX2 22 "CycleHouse$Graph" "weight" "[I", .methodLink RX2 36 yJ13_bitCount_95d88, .static yJ13_bitCount_95d88, .initialized RJ13, .code yJ13_bitCount_95d88 cJ13_bitCount_95d88 2 (some .int), .constantLong RJ13 314 (6148914691236517205), .constantLong RJ13 316 (3689348814741910323), .constantLong RJ13 318 (1085102592571150095), .methodLink RX2 42 yJ13_numberOfTrailingZeros_95d88, .static yJ13_numberOfTrailingZeros_95d88, .code yJ13_numberOfTrailingZeros_95d88 cJ13_numberOfTrailingZeros_95d88 3 (some .int), .methodLink RJ13 311 yJ6_numberOfTrailingZeros_0f7a4, .static yJ6_numberOfTrailingZeros_0f7a4, .initialized RJ6, .code yJ6_numberOfTrailingZeros_0f7a4 cJ6_numberOfTrailingZeros_0f7a4 2 (some .int), .constant RJ6 264 (65536), .static yX7_has, .initialized RX7, .code yX7_has cX7_has 3 (some .boolean)] ++ wsX20)
def wsX2_weigh : List Cond := .code yX2_weigh cX2_weigh 3 (some .long) :: ([.methodLink RX2 32 yX2_gain, .instanceMethod yX2_gain, .selects RX2 yX2_gain yX2_gain, .initialized RX2, .code yX2_gain cX2_gain 11 (some .long), .fieldLink RX2 22 "CycleHouse$Graph" "weight" "[I", .methodLink RX2 36 yJ13_bitCount_95d88, .static yJ13_bitCount_95d88, .initialized RJ13, .code yJ13_bitCount_95d88 cJ13_bitCount_95d88 2 (some .int), .constantLong RJ13 314 (6148914691236517205), .constantLong RJ13 316 (3689348814741910323), .constantLong RJ13 318 (1085102592571150095), .methodLink RX2 42 yJ13_numberOfTrailingZeros_95d88, .static yJ13_numberOfTrailingZeros_95d88, .code yJ13_numberOfTrailingZeros_95d88 cJ13_numberOfTrailingZeros_95d88 3 (some .int), .methodLink RJ13 311 yJ6_numberOfTrailingZeros_0f7a4, .static yJ6_numberOfTrailingZeros_0f7a4, .initialized RJ6, .code yJ6_numberOfTrailingZeros_0f7a4 cJ6_numberOfTrailingZeros_0f7a4 2 (some .int), .constant RJ6 264 (65536), .static yX7_has, .initialized RX7, .code yX7_has cX7_has 3 (some .boolean)] ++ wsX20)
def wsX2_edgesApartFrom : List Cond := .code yX2_edgesApartFrom cX2_edgesApartFrom 5 (some .long) :: ([.fieldLink RX2 25 "CycleHouse$Graph" "edges" "I", .fieldLink RX2 15 "CycleHouse$Graph" "from" "[I", .fieldLink RX2 19 "CycleHouse$Graph" "to" "[I"] ++ wsX20)
def wsX3_init : List Cond := .code yX3_init cX3_init 1 none :: ([.methodLink RX3 3 objectInit, .instanceMethod objectInit, .code objectInit ⟨#[0xb1]⟩ 1 none, .arrayClass .int, .fieldLink RX3 9 "CycleHouse$Groups" "name" "[I", .arrayClass .long, .fieldLink RX3 15 "CycleHouse$Groups" "way" "[J"] ++ wsX30)
def wsX3_part : List Cond := .code yX3_part cX3_part 3 none :: ([.fieldLink RX3 19 "CycleHouse$Groups" "vertices" "I", .fieldLink RX3 23 "CycleHouse$Groups" "count" "I", .fieldLink RX3 9 "CycleHouse$Groups" "name" "[I", .fieldLink RX3 15 "CycleHouse$Groups" "way" "[J"] ++ wsX30)
def wsX3_together : List Cond := .code yX3_together cX3_together 3 (some .boolean) :: ([.fieldLink RX3 9 "CycleHouse$Groups" "name" "[I"] ++ wsX30)
def wsX3_merge : List Cond := .code yX3_merge cX3_merge 6 none :: ([.fieldLink RX3 19 "CycleHouse$Groups" "vertices" "I", .fieldLink RX3 9 "CycleHouse$Groups" "name" "[I", .fieldLink RX3 15 "CycleHouse$Groups" "way" "[J", .fieldLink RX3 23 "CycleHouse$Groups" "count" "I"] ++ wsX30)
def wsX3_join : List Cond := .code yX3_join cX3_join 7 (some .long) :: ([.fieldLink RX3 15 "CycleHouse$Groups" "way" "[J", .fieldLink RX3 9 "CycleHouse$Groups" "name" "[I", .methodLink RX3 34 yX3_together, .instanceMethod yX3_together, .selects RX3 yX3_together yX3_together, .initialized RX3, .code yX3_together cX3_together 3 (some .boolean), .methodLink RX3 38 yX3_merge, .instanceMethod yX3_merge, .selects RX3 yX3_merge yX3_merge, .code yX3_merge cX3_merge 6 none, .fieldLink RX3 19 "CycleHouse$Groups" "vertices" "I", .fieldLink RX3 23 "CycleHouse$Groups" "count" "I"] ++ wsX20 ++ wsX30)
def wsX4_init : List Cond := .code yX4_init cX4_init 1 none :: ([.methodLink RX4 3 objectInit, .instanceMethod objectInit, .code objectInit ⟨#[0xb1]⟩ 1 none, .arrayClass .long, .fieldLink RX4 9 "CycleHouse$LightBasis" "ring" "[J", .fieldLink RX4 15 "CycleHouse$LightBasis" "weight" "[J", .fieldLink RX4 18 "CycleHouse$LightBasis" "left" "[J", .fieldLink RX4 21 "CycleHouse$LightBasis" "leftWeight" "[J"] ++ wsX40)
def wsX6_shorten : List Cond := .code yX6_shorten cX6_shorten 5 (some .boolean) :: ([.fieldLink RX6 9 "CycleHouse$Ways" "length" "[J", .fieldLink RX6 15 "CycleHouse$Ways" "way" "[J"] ++ wsX60)
def wsX6_shortenAll : List Cond := .code yX6_shortenAll cX6_shortenAll 7 (some .boolean) :: ([.methodLink RX6 43 yX6_shorten, .instanceMethod yX6_shorten, .selects RX6 yX6_shorten yX6_shorten, .initialized RX6, .code yX6_shorten cX6_shorten 5 (some .boolean), .fieldLink RX6 9 "CycleHouse$Ways" "length" "[J", .fieldLink RX6 15 "CycleHouse$Ways" "way" "[J"] ++ wsX20 ++ wsX60)
def wsX6_seek : List Cond := .code yX6_seek cX6_seek 6 none :: ([.fieldLink RX6 9 "CycleHouse$Ways" "length" "[J", .constantLong RX6 24 (1152921504606846976), .fieldLink RX6 15 "CycleHouse$Ways" "way" "[J", .methodLink RX6 26 yX6_shortenAll, .instanceMethod yX6_shortenAll, .selects RX6 yX6_shortenAll yX6_shortenAll, .initialized RX6, .code yX6_shortenAll cX6_shortenAll 7 (some .boolean), .methodLink RX6 43 yX6_shorten, .instanceMethod yX6_shorten, .selects RX6 yX6_shorten yX6_shorten, .code yX6_shorten cX6_shorten 5 (some .boolean)] ++ wsX20 ++ wsX60)
def wsX6_reaches : List Cond := .code yX6_reaches cX6_reaches 2 (some .boolean) :: ([.fieldLink RX6 9 "CycleHouse$Ways" "length" "[J", .constantLong RX6 24 (1152921504606846976)] ++ wsX60)
def wsX4_gather : List Cond := .code yX4_gather cX4_gather 8 none :: ([.fieldLink RX4 18 "CycleHouse$LightBasis" "left" "[J", .fieldLink RX4 44 "CycleHouse$LightBasis" "candidates" "I", .fieldLink RX4 21 "CycleHouse$LightBasis" "leftWeight" "[J", .methodLink RX4 75 yX6_reaches, .instanceMethod yX6_reaches, .selects RX6 yX6_reaches yX6_reaches, .initialized RX6, .code yX6_reaches cX6_reaches 2 (some .boolean), .fieldLink RX6 9 "CycleHouse$Ways" "length" "[J", .constantLong RX6 24 (1152921504606846976)] ++ wsX20 ++ wsX60 ++ wsX40)
def wsX4_gatherAll_r1 : List Cond := [Cond.fieldLink RX4 44 "CycleHouse$LightBasis" "candidates" "I", Cond.methodLink RX4 52 yX6_seek, Cond.instanceMethod yX6_seek, Cond.selects RX6 yX6_seek yX6_seek, Cond.initialized RX6, Cond.code yX6_seek cX6_seek 6 none, Cond.fieldLink RX6 9 "CycleHouse$Ways" "length" "[J", Cond.constantLong RX6 24 (1152921504606846976), Cond.fieldLink RX6 15 "CycleHouse$Ways" "way" "[J", Cond.methodLink RX6 26 yX6_shortenAll, Cond.instanceMethod yX6_shortenAll, Cond.selects RX6 yX6_shortenAll yX6_shortenAll, Cond.code yX6_shortenAll cX6_shortenAll 7 (some .boolean), Cond.methodLink RX6 43 yX6_shorten, Cond.instanceMethod yX6_shorten, Cond.selects RX6 yX6_shorten yX6_shorten, Cond.code yX6_shorten cX6_shorten 5 (some .boolean), Cond.methodLink RX4 61 yX4_gather, Cond.instanceMethod yX4_gather, Cond.selects RX4 yX4_gather yX4_gather, Cond.initialized RX4, Cond.code yX4_gather cX4_gather 8 none, Cond.fieldLink RX4 18 "CycleHouse$LightBasis" "left" "[J", Cond.fieldLink RX4 21 "CycleHouse$LightBasis" "leftWeight" "[J"]
def wsX4_gatherAll_r2 : List Cond := [Cond.methodLink RX4 75 yX6_reaches, Cond.instanceMethod yX6_reaches, Cond.selects RX6 yX6_reaches yX6_reaches, Cond.code yX6_reaches cX6_reaches 2 (some .boolean)]
def wsX4_gatherAll : List Cond := .code yX4_gatherAll cX4_gatherAll 5 none :: ((wsX4_gatherAll_r1 ++ wsX4_gatherAll_r2) ++ wsX40 ++ wsX20 ++ wsX60)
def wsX4_lightestLeft : List Cond := .code yX4_lightestLeft cX4_lightestLeft 3 (some .int) :: ([.fieldLink RX4 44 "CycleHouse$LightBasis" "candidates" "I", .fieldLink RX4 18 "CycleHouse$LightBasis" "left" "[J", .fieldLink RX4 21 "CycleHouse$LightBasis" "leftWeight" "[J"] ++ wsX40)
def wsX4_mark : List Cond := .code yX4_mark cX4_mark 2 (some .long) :: ([])
def wsX4_strike : List Cond := .code yX4_strike cX4_strike 4 none :: ([.fieldLink RX4 44 "CycleHouse$LightBasis" "candidates" "I", .fieldLink RX4 18 "CycleHouse$LightBasis" "left" "[J", .methodLink RX4 40 yX4_mark, .static yX4_mark, .initialized RX4, .code yX4_mark cX4_mark 2 (some .long)] ++ wsX40)
def wsX4_find_r1 : List Cond := [Cond.fieldLink RX4 28 "CycleHouse$LightBasis" "size" "I", Cond.fieldLink RX4 9 "CycleHouse$LightBasis" "ring" "[J", Cond.fieldLink RX4 18 "CycleHouse$LightBasis" "left" "[J", Cond.fieldLink RX4 15 "CycleHouse$LightBasis" "weight" "[J", Cond.fieldLink RX4 21 "CycleHouse$LightBasis" "leftWeight" "[J", Cond.methodLink RX4 24 yX4_gatherAll, Cond.instanceMethod yX4_gatherAll, Cond.selects RX4 yX4_gatherAll yX4_gatherAll, Cond.initialized RX4, Cond.code yX4_gatherAll cX4_gatherAll 5 none, Cond.fieldLink RX4 44 "CycleHouse$LightBasis" "candidates" "I", Cond.methodLink RX4 52 yX6_seek, Cond.instanceMethod yX6_seek, Cond.selects RX6 yX6_seek yX6_seek, Cond.initialized RX6, Cond.code yX6_seek cX6_seek 6 none, Cond.fieldLink RX6 9 "CycleHouse$Ways" "length" "[J", Cond.constantLong RX6 24 (1152921504606846976), Cond.fieldLink RX6 15 "CycleHouse$Ways" "way" "[J", Cond.methodLink RX6 26 yX6_shortenAll, Cond.instanceMethod yX6_shortenAll, Cond.selects RX6 yX6_shortenAll yX6_shortenAll, Cond.code yX6_shortenAll cX6_shortenAll 7 (some .boolean), Cond.methodLink RX6 43 yX6_shorten]
def wsX4_find_r2 : List Cond := [Cond.instanceMethod yX6_shorten, Cond.selects RX6 yX6_shorten yX6_shorten, Cond.code yX6_shorten cX6_shorten 5 (some .boolean), Cond.methodLink RX4 61 yX4_gather, Cond.instanceMethod yX4_gather, Cond.selects RX4 yX4_gather yX4_gather, Cond.code yX4_gather cX4_gather 8 none, Cond.methodLink RX4 75 yX6_reaches, Cond.instanceMethod yX6_reaches, Cond.selects RX6 yX6_reaches yX6_reaches, Cond.code yX6_reaches cX6_reaches 2 (some .boolean), Cond.methodLink RX4 32 yX4_lightestLeft, Cond.instanceMethod yX4_lightestLeft, Cond.selects RX4 yX4_lightestLeft yX4_lightestLeft, Cond.code yX4_lightestLeft cX4_lightestLeft 3 (some .int), Cond.methodLink RX4 36 yX4_strike, Cond.instanceMethod yX4_strike, Cond.selects RX4 yX4_strike yX4_strike, Cond.code yX4_strike cX4_strike 4 none, Cond.methodLink RX4 40 yX4_mark, Cond.static yX4_mark, Cond.code yX4_mark cX4_mark 2 (some .long)]
def wsX4_find : List Cond := .code yX4_find cX4_find 4 none :: ((wsX4_find_r1 ++ wsX4_find_r2) ++ wsX40 ++ wsX20 ++ wsX60)
def wsX4_isSumOfLighter : List Cond := .code yX4_isSumOfLighter cX4_isSumOfLighter 8 (some .boolean) :: ([.fieldLink RX4 28 "CycleHouse$LightBasis" "size" "I", .fieldLink RX4 15 "CycleHouse$LightBasis" "weight" "[J", .fieldLink RX4 9 "CycleHouse$LightBasis" "ring" "[J", .methodLink RX4 40 yX4_mark, .static yX4_mark, .initialized RX4, .code yX4_mark cX4_mark 2 (some .long)] ++ wsX40)
def wsX5_init : List Cond := .code yX5_init cX5_init 1 none :: ([.methodLink RX5 3 objectInit, .instanceMethod objectInit, .code objectInit ⟨#[0xb1]⟩ 1 none, .arrayClass .long, .fieldLink RX5 9 "CycleHouse$SetList" "row" "[J"] ++ wsX50)
def wsX5_rest : List Cond := .code yX5_rest cX5_rest 6 (some .long) :: ([.fieldLink RX5 9 "CycleHouse$SetList" "row" "[J", .static yX7_has, .initialized RX7, .code yX7_has cX7_has 3 (some .boolean)] ++ wsX50)
def wsX5_append : List Cond := .code yX5_append cX5_append 5 (some .int) :: ([.fieldLink RX5 9 "CycleHouse$SetList" "row" "[J", .fieldLink RX5 25 "CycleHouse$SetList" "rank" "I", .fieldLink RX5 29 "CycleHouse$SetList" "sets" "I", .methodLink RX5 15 yX5_rest, .instanceMethod yX5_rest, .selects RX5 yX5_rest yX5_rest, .initialized RX5, .code yX5_rest cX5_rest 6 (some .long), .static yX7_has, .initialized RX7, .code yX7_has cX7_has 3 (some .boolean), .methodLink RX5 19 yJ13_numberOfTrailingZeros_95d88, .static yJ13_numberOfTrailingZeros_95d88, .initialized RJ13, .code yJ13_numberOfTrailingZeros_95d88 cJ13_numberOfTrailingZeros_95d88 3 (some .int), .methodLink RJ13 311 yJ6_numberOfTrailingZeros_0f7a4, .static yJ6_numberOfTrailingZeros_0f7a4, .initialized RJ6, .code yJ6_numberOfTrailingZeros_0f7a4 cJ6_numberOfTrailingZeros_0f7a4 2 (some .int), .constant RJ6 264 (65536)] ++ wsX50)
def wsX5_empty : List Cond := .code yX5_empty cX5_empty 1 none :: ([.fieldLink RX5 29 "CycleHouse$SetList" "sets" "I", .fieldLink RX5 25 "CycleHouse$SetList" "rank" "I", .fieldLink RX5 9 "CycleHouse$SetList" "row" "[J", .methodLink RX5 32 yJ7_fill_d0a16, .static yJ7_fill_d0a16, .initialized RJ7, .code yJ7_fill_d0a16 cJ7_fill_d0a16 5 none] ++ wsX50)
def wsX6_init : List Cond := .code yX6_init cX6_init 1 none :: ([.methodLink RX6 3 objectInit, .instanceMethod objectInit, .code objectInit ⟨#[0xb1]⟩ 1 none, .arrayClass .long, .fieldLink RX6 9 "CycleHouse$Ways" "length" "[J", .fieldLink RX6 15 "CycleHouse$Ways" "way" "[J"] ++ wsX60)
def wsX7_init_r1 : List Cond := [Cond.methodLink RX7 1 objectInit, Cond.instanceMethod objectInit, Cond.code objectInit ⟨#[0xb1]⟩ 1 none, Cond.classLink RX7 7 RX2, Cond.instantiable RX2 5, Cond.initialized RX2, Cond.fieldLink RX7 10 "CycleHouse" "graph" "LCycleHouse$Graph;", Cond.classLink RX7 16 RX5, Cond.instantiable RX5 3, Cond.initialized RX5, Cond.fieldLink RX7 19 "CycleHouse" "list" "LCycleHouse$SetList;", Cond.classLink RX7 23 RX3, Cond.instantiable RX3 4, Cond.initialized RX3, Cond.fieldLink RX7 26 "CycleHouse" "groups" "LCycleHouse$Groups;", Cond.classLink RX7 30 RX6, Cond.instantiable RX6 2, Cond.initialized RX6, Cond.fieldLink RX7 33 "CycleHouse" "ways" "LCycleHouse$Ways;", Cond.classLink RX7 37 RX4, Cond.instantiable RX4 6, Cond.initialized RX4, Cond.fieldLink RX7 40 "CycleHouse" "lightBasis" "LCycleHouse$LightBasis;", Cond.classLink RX7 44 RX1]
def wsX7_init_r2 : List Cond := [Cond.instantiable RX1 1, Cond.initialized RX1, Cond.fieldLink RX7 47 "CycleHouse" "forestCount" "LCycleHouse$ForestCount;", Cond.classLink RX7 51 RX0, Cond.instantiable RX0 1, Cond.initialized RX0, Cond.fieldLink RX7 54 "CycleHouse" "cycleCount" "LCycleHouse$CycleCount;", Cond.arrayClass .long, Cond.fieldLink RX7 58 "CycleHouse" "rings" "[J", Cond.methodLink RX7 9 yX2_init, Cond.instanceMethod yX2_init, Cond.code yX2_init cX2_init 1 none, Cond.methodLink RX2 3 objectInit, Cond.fieldLink RX2 9 "CycleHouse$Graph" "vertices" "I", Cond.arrayClass .int, Cond.fieldLink RX2 15 "CycleHouse$Graph" "from" "[I", Cond.fieldLink RX2 19 "CycleHouse$Graph" "to" "[I", Cond.fieldLink RX2 22 "CycleHouse$Graph" "weight" "[I", Cond.methodLink RX7 18 yX5_init, Cond.instanceMethod yX5_init, Cond.code yX5_init cX5_init 1 none, Cond.methodLink RX5 3 objectInit, Cond.fieldLink RX5 9 "CycleHouse$SetList" "row" "[J", Cond.methodLink RX7 25 yX3_init]
def wsX7_init_r3 : List Cond := [Cond.instanceMethod yX3_init, Cond.code yX3_init cX3_init 1 none, Cond.methodLink RX3 3 objectInit, Cond.fieldLink RX3 9 "CycleHouse$Groups" "name" "[I", Cond.fieldLink RX3 15 "CycleHouse$Groups" "way" "[J", Cond.methodLink RX7 32 yX6_init, Cond.instanceMethod yX6_init, Cond.code yX6_init cX6_init 1 none, Cond.methodLink RX6 3 objectInit, Cond.fieldLink RX6 9 "CycleHouse$Ways" "length" "[J", Cond.fieldLink RX6 15 "CycleHouse$Ways" "way" "[J", Cond.methodLink RX7 39 yX4_init, Cond.instanceMethod yX4_init, Cond.code yX4_init cX4_init 1 none, Cond.methodLink RX4 3 objectInit, Cond.fieldLink RX4 9 "CycleHouse$LightBasis" "ring" "[J", Cond.fieldLink RX4 15 "CycleHouse$LightBasis" "weight" "[J", Cond.fieldLink RX4 18 "CycleHouse$LightBasis" "left" "[J", Cond.fieldLink RX4 21 "CycleHouse$LightBasis" "leftWeight" "[J", Cond.methodLink RX7 46 yX1_init, Cond.instanceMethod yX1_init, Cond.code yX1_init cX1_init 1 none, Cond.methodLink RX1 3 objectInit, Cond.classLink RX1 9 "[[J"]
def wsX7_init_r4 : List Cond := [Cond.fieldLink RX1 11 "CycleHouse$ForestCount" "table" "[[J", Cond.methodLink RX7 53 yX0_init, Cond.instanceMethod yX0_init, Cond.code yX0_init cX0_init 1 none, Cond.methodLink RX0 3 objectInit, Cond.classLink RX0 9 "[[I", Cond.fieldLink RX0 11 "CycleHouse$CycleCount" "between" "[[I"]
def wsX7_init : List Cond := .code yX7_init cX7_init 1 none :: ((wsX7_init_r1 ++ (wsX7_init_r2 ++ (wsX7_init_r3 ++ wsX7_init_r4))) ++ wsX20 ++ wsX70 ++ wsX50 ++ wsX30 ++ wsX60 ++ wsX40 ++ wsX10 ++ wsX00)
def wsX7_reset : List Cond := .code yX7_reset cX7_reset 3 (some .int) :: ([.classLink RX7 62 "java/lang/IllegalArgumentException", .initialized "java/lang/IllegalArgumentException", .fieldLink RX7 10 "CycleHouse" "graph" "LCycleHouse$Graph;", .methodLink RX7 73 yX2_begin, .instanceMethod yX2_begin, .selects RX2 yX2_begin yX2_begin, .initialized RX2, .code yX2_begin cX2_begin 2 none, .fieldLink RX2 9 "CycleHouse$Graph" "vertices" "I", .fieldLink RX2 25 "CycleHouse$Graph" "edges" "I"] ++ wsX70 ++ wsX20 ++ (vx_atS RX7 66 "java/lang/IllegalArgumentException" ["java/lang/RuntimeException", "java/lang/Exception"]).filter goodWord)
def wsX7_joinSet_r1 : List Cond := [Cond.fieldLink RX7 26 "CycleHouse" "groups" "LCycleHouse$Groups;", Cond.fieldLink RX7 10 "CycleHouse" "graph" "LCycleHouse$Graph;", Cond.methodLink RX7 230 yX3_part, Cond.instanceMethod yX3_part, Cond.selects RX3 yX3_part yX3_part, Cond.initialized RX3, Cond.code yX3_part cX3_part 3 none, Cond.fieldLink RX3 19 "CycleHouse$Groups" "vertices" "I", Cond.fieldLink RX3 23 "CycleHouse$Groups" "count" "I", Cond.fieldLink RX3 9 "CycleHouse$Groups" "name" "[I", Cond.fieldLink RX3 15 "CycleHouse$Groups" "way" "[J", Cond.methodLink RX7 233 yX7_has, Cond.static yX7_has, Cond.initialized RX7, Cond.code yX7_has cX7_has 3 (some .boolean), Cond.methodLink RX7 237 yX3_join, Cond.instanceMethod yX3_join, Cond.selects RX3 yX3_join yX3_join, Cond.code yX3_join cX3_join 7 (some .long), Cond.methodLink RX3 34 yX3_together, Cond.instanceMethod yX3_together, Cond.selects RX3 yX3_together yX3_together, Cond.code yX3_together cX3_together 3 (some .boolean), Cond.methodLink RX3 38 yX3_merge]
def wsX7_joinSet_r2 : List Cond := [Cond.instanceMethod yX3_merge, Cond.selects RX3 yX3_merge yX3_merge, Cond.code yX3_merge cX3_merge 6 none]
def wsX7_joinSet : List Cond := .code yX7_joinSet cX7_joinSet 5 (some .int) :: ((wsX7_joinSet_r1 ++ wsX7_joinSet_r2) ++ wsX70 ++ wsX20 ++ wsX30)
def wsX7_joinWhole_r1 : List Cond := [Cond.fieldLink RX7 10 "CycleHouse" "graph" "LCycleHouse$Graph;", Cond.methodLink RX7 114 yX7_joinSet, Cond.instanceMethod yX7_joinSet, Cond.selects RX7 yX7_joinSet yX7_joinSet, Cond.initialized RX7, Cond.code yX7_joinSet cX7_joinSet 5 (some .int), Cond.fieldLink RX7 26 "CycleHouse" "groups" "LCycleHouse$Groups;", Cond.methodLink RX7 230 yX3_part, Cond.instanceMethod yX3_part, Cond.selects RX3 yX3_part yX3_part, Cond.initialized RX3, Cond.code yX3_part cX3_part 3 none, Cond.fieldLink RX3 19 "CycleHouse$Groups" "vertices" "I", Cond.fieldLink RX3 23 "CycleHouse$Groups" "count" "I", Cond.fieldLink RX3 9 "CycleHouse$Groups" "name" "[I", Cond.fieldLink RX3 15 "CycleHouse$Groups" "way" "[J", Cond.methodLink RX7 233 yX7_has, Cond.static yX7_has, Cond.code yX7_has cX7_has 3 (some .boolean), Cond.methodLink RX7 237 yX3_join, Cond.instanceMethod yX3_join, Cond.selects RX3 yX3_join yX3_join, Cond.code yX3_join cX3_join 7 (some .long), Cond.methodLink RX3 34 yX3_together]
def wsX7_joinWhole_r2 : List Cond := [Cond.instanceMethod yX3_together, Cond.selects RX3 yX3_together yX3_together, Cond.code yX3_together cX3_together 3 (some .boolean), Cond.methodLink RX3 38 yX3_merge, Cond.instanceMethod yX3_merge, Cond.selects RX3 yX3_merge yX3_merge, Cond.code yX3_merge cX3_merge 6 none]
def wsX7_joinWhole : List Cond := .code yX7_joinWhole cX7_joinWhole 1 (some .int) :: ((wsX7_joinWhole_r1 ++ wsX7_joinWhole_r2) ++ wsX70 ++ wsX20 ++ wsX30)
def wsX7_edge_r1 : List Cond := [Cond.classLink RX7 62 "java/lang/IllegalArgumentException", Cond.initialized "java/lang/IllegalArgumentException", Cond.classLink RX7 86 "java/lang/IllegalStateException", Cond.initialized "java/lang/IllegalStateException", Cond.fieldLink RX7 10 "CycleHouse" "graph" "LCycleHouse$Graph;", Cond.constant RX7 83 (1000000000), Cond.fieldLink RX7 26 "CycleHouse" "groups" "LCycleHouse$Groups;", Cond.methodLink RX7 77 yX2_hasVertex, Cond.instanceMethod yX2_hasVertex, Cond.selects RX2 yX2_hasVertex yX2_hasVertex, Cond.initialized RX2, Cond.code yX2_hasVertex cX2_hasVertex 2 (some .boolean), Cond.fieldLink RX2 9 "CycleHouse$Graph" "vertices" "I", Cond.methodLink RX7 91 yX7_joinWhole, Cond.instanceMethod yX7_joinWhole, Cond.selects RX7 yX7_joinWhole yX7_joinWhole, Cond.initialized RX7, Cond.code yX7_joinWhole cX7_joinWhole 1 (some .int), Cond.methodLink RX7 114 yX7_joinSet, Cond.instanceMethod yX7_joinSet, Cond.selects RX7 yX7_joinSet yX7_joinSet, Cond.code yX7_joinSet cX7_joinSet 5 (some .int), Cond.methodLink RX7 230 yX3_part, Cond.instanceMethod yX3_part]
def wsX7_edge_r2 : List Cond := [Cond.selects RX3 yX3_part yX3_part, Cond.initialized RX3, Cond.code yX3_part cX3_part 3 none, Cond.fieldLink RX3 19 "CycleHouse$Groups" "vertices" "I", Cond.fieldLink RX3 23 "CycleHouse$Groups" "count" "I", Cond.fieldLink RX3 9 "CycleHouse$Groups" "name" "[I", Cond.fieldLink RX3 15 "CycleHouse$Groups" "way" "[J", Cond.methodLink RX7 233 yX7_has, Cond.static yX7_has, Cond.code yX7_has cX7_has 3 (some .boolean), Cond.methodLink RX7 237 yX3_join, Cond.instanceMethod yX3_join, Cond.selects RX3 yX3_join yX3_join, Cond.code yX3_join cX3_join 7 (some .long), Cond.methodLink RX3 34 yX3_together, Cond.instanceMethod yX3_together, Cond.selects RX3 yX3_together yX3_together, Cond.code yX3_together cX3_together 3 (some .boolean), Cond.methodLink RX3 38 yX3_merge, Cond.instanceMethod yX3_merge, Cond.selects RX3 yX3_merge yX3_merge, Cond.code yX3_merge cX3_merge 6 none, Cond.methodLink RX7 95 yX3_together, Cond.methodLink RX7 101 yX2_append]
def wsX7_edge_r3 : List Cond := [Cond.instanceMethod yX2_append, Cond.selects RX2 yX2_append yX2_append, Cond.code yX2_append cX2_append 5 (some .int), Cond.fieldLink RX2 25 "CycleHouse$Graph" "edges" "I", Cond.fieldLink RX2 15 "CycleHouse$Graph" "from" "[I", Cond.fieldLink RX2 19 "CycleHouse$Graph" "to" "[I", Cond.fieldLink RX2 22 "CycleHouse$Graph" "weight" "[I"]
def wsX7_edge : List Cond := .code yX7_edge cX7_edge 4 (some .int) :: ((wsX7_edge_r1 ++ (wsX7_edge_r2 ++ wsX7_edge_r3)) ++ wsX70 ++ wsX20 ++ wsX30 ++ (vx_atS RX7 66 "java/lang/IllegalArgumentException" ["java/lang/RuntimeException", "java/lang/Exception"]).filter goodWord ++ (vx_atS RX7 90 "java/lang/IllegalStateException" ["java/lang/RuntimeException", "java/lang/Exception"]).filter goodWord)
def wsX7_drop : List Cond := .code yX7_drop cX7_drop 1 (some .int) :: ([.classLink RX7 86 "java/lang/IllegalStateException", .initialized "java/lang/IllegalStateException", .fieldLink RX7 10 "CycleHouse" "graph" "LCycleHouse$Graph;", .methodLink RX7 107 yX2_removeLast, .instanceMethod yX2_removeLast, .selects RX2 yX2_removeLast yX2_removeLast, .initialized RX2, .code yX2_removeLast cX2_removeLast 1 (some .int), .fieldLink RX2 25 "CycleHouse$Graph" "edges" "I"] ++ wsX70 ++ wsX20 ++ (vx_atS RX7 90 "java/lang/IllegalStateException" ["java/lang/RuntimeException", "java/lang/Exception"]).filter goodWord)
def wsX7_checkEdges : List Cond := .code yX7_checkEdges cX7_checkEdges 3 none :: ([.classLink RX7 62 "java/lang/IllegalArgumentException", .initialized "java/lang/IllegalArgumentException", .fieldLink RX7 10 "CycleHouse" "graph" "LCycleHouse$Graph;"] ++ wsX70 ++ wsX20 ++ (vx_atS RX7 66 "java/lang/IllegalArgumentException" ["java/lang/RuntimeException", "java/lang/Exception"]).filter goodWord)
def wsX7_forests_r1 : List Cond := [Cond.fieldLink RX7 47 "CycleHouse" "forestCount" "LCycleHouse$ForestCount;", Cond.fieldLink RX7 10 "CycleHouse" "graph" "LCycleHouse$Graph;", Cond.fieldLink RX7 26 "CycleHouse" "groups" "LCycleHouse$Groups;", Cond.methodLink RX7 110 yX7_checkEdges, Cond.instanceMethod yX7_checkEdges, Cond.selects RX7 yX7_checkEdges yX7_checkEdges, Cond.initialized RX7, Cond.code yX7_checkEdges cX7_checkEdges 3 none, Cond.classLink RX7 62 "java/lang/IllegalArgumentException", Cond.initialized "java/lang/IllegalArgumentException", Cond.methodLink RX7 114 yX7_joinSet, Cond.instanceMethod yX7_joinSet, Cond.selects RX7 yX7_joinSet yX7_joinSet, Cond.code yX7_joinSet cX7_joinSet 5 (some .int), Cond.methodLink RX7 230 yX3_part, Cond.instanceMethod yX3_part, Cond.selects RX3 yX3_part yX3_part, Cond.initialized RX3, Cond.code yX3_part cX3_part 3 none, Cond.fieldLink RX3 19 "CycleHouse$Groups" "vertices" "I", Cond.fieldLink RX3 23 "CycleHouse$Groups" "count" "I", Cond.fieldLink RX3 9 "CycleHouse$Groups" "name" "[I", Cond.fieldLink RX3 15 "CycleHouse$Groups" "way" "[J", Cond.methodLink RX7 233 yX7_has]
def wsX7_forests_r2 : List Cond := [Cond.static yX7_has, Cond.code yX7_has cX7_has 3 (some .boolean), Cond.methodLink RX7 237 yX3_join, Cond.instanceMethod yX3_join, Cond.selects RX3 yX3_join yX3_join, Cond.code yX3_join cX3_join 7 (some .long), Cond.methodLink RX3 34 yX3_together, Cond.instanceMethod yX3_together, Cond.selects RX3 yX3_together yX3_together, Cond.code yX3_together cX3_together 3 (some .boolean), Cond.methodLink RX3 38 yX3_merge, Cond.instanceMethod yX3_merge, Cond.selects RX3 yX3_merge yX3_merge, Cond.code yX3_merge cX3_merge 6 none, Cond.methodLink RX7 118 yX1_count, Cond.instanceMethod yX1_count, Cond.selects RX1 yX1_count yX1_count, Cond.initialized RX1, Cond.code yX1_count cX1_count 6 (some .long), Cond.fieldLink RX1 11 "CycleHouse$ForestCount" "table" "[[J", Cond.methodLink RX1 22 yJ7_fill_d0a16, Cond.static yJ7_fill_d0a16, Cond.initialized RJ7, Cond.code yJ7_fill_d0a16 cJ7_fill_d0a16 5 none]
def wsX7_forests_r3 : List Cond := [Cond.methodLink RX1 43 yX1_determinant, Cond.instanceMethod yX1_determinant, Cond.selects RX1 yX1_determinant yX1_determinant, Cond.code yX1_determinant cX1_determinant 7 (some .long), Cond.methodLink RX1 47 yX1_eliminate, Cond.instanceMethod yX1_eliminate, Cond.selects RX1 yX1_eliminate yX1_eliminate, Cond.code yX1_eliminate cX1_eliminate 7 none]
def wsX7_forests : List Cond := .code yX7_forests cX7_forests 3 (some .long) :: ((wsX7_forests_r1 ++ (wsX7_forests_r2 ++ wsX7_forests_r3)) ++ wsX70 ++ wsX20 ++ wsX30 ++ wsX10 ++ (vx_atS RX7 66 "java/lang/IllegalArgumentException" ["java/lang/RuntimeException", "java/lang/Exception"]).filter goodWord)
def wsX7_lightestJoin : List Cond := .code yX7_lightestJoin cX7_lightestJoin 3 (some .int) :: ([.fieldLink RX7 10 "CycleHouse" "graph" "LCycleHouse$Graph;", .fieldLink RX7 26 "CycleHouse" "groups" "LCycleHouse$Groups;", .methodLink RX7 95 yX3_together, .instanceMethod yX3_together, .selects RX3 yX3_together yX3_together, .initialized RX3, .code yX3_together cX3_together 3 (some .boolean), .fieldLink RX3 9 "CycleHouse$Groups" "name" "[I"] ++ wsX70 ++ wsX20 ++ wsX30)
def wsX7_weightOfLightestJoins_r1 : List Cond := [Cond.fieldLink RX7 10 "CycleHouse" "graph" "LCycleHouse$Graph;", Cond.fieldLink RX7 26 "CycleHouse" "groups" "LCycleHouse$Groups;", Cond.methodLink RX7 241 yX7_lightestJoin, Cond.instanceMethod yX7_lightestJoin, Cond.selects RX7 yX7_lightestJoin yX7_lightestJoin, Cond.initialized RX7, Cond.code yX7_lightestJoin cX7_lightestJoin 3 (some .int), Cond.methodLink RX7 95 yX3_together, Cond.instanceMethod yX3_together, Cond.selects RX3 yX3_together yX3_together, Cond.initialized RX3, Cond.code yX3_together cX3_together 3 (some .boolean), Cond.fieldLink RX3 9 "CycleHouse$Groups" "name" "[I", Cond.methodLink RX7 237 yX3_join, Cond.instanceMethod yX3_join, Cond.selects RX3 yX3_join yX3_join, Cond.code yX3_join cX3_join 7 (some .long), Cond.fieldLink RX3 15 "CycleHouse$Groups" "way" "[J", Cond.methodLink RX3 34 yX3_together, Cond.methodLink RX3 38 yX3_merge, Cond.instanceMethod yX3_merge, Cond.selects RX3 yX3_merge yX3_merge, Cond.code yX3_merge cX3_merge 6 none, Cond.fieldLink RX3 19 "CycleHouse$Groups" "vertices" "I"]
def wsX7_weightOfLightestJoins_r2 : List Cond := [Cond.fieldLink RX3 23 "CycleHouse$Groups" "count" "I"]
def wsX7_weightOfLightestJoins : List Cond := .code yX7_weightOfLightestJoins cX7_weightOfLightestJoins 5 (some .long) :: ((wsX7_weightOfLightestJoins_r1 ++ wsX7_weightOfLightestJoins_r2) ++ wsX70 ++ wsX20 ++ wsX30)
def wsX7_lightest_r1 : List Cond := [Cond.constantLong RX7 122 (-1), Cond.fieldLink RX7 10 "CycleHouse" "graph" "LCycleHouse$Graph;", Cond.methodLink RX7 110 yX7_checkEdges, Cond.instanceMethod yX7_checkEdges, Cond.selects RX7 yX7_checkEdges yX7_checkEdges, Cond.initialized RX7, Cond.code yX7_checkEdges cX7_checkEdges 3 none, Cond.classLink RX7 62 "java/lang/IllegalArgumentException", Cond.initialized "java/lang/IllegalArgumentException", Cond.methodLink RX7 114 yX7_joinSet, Cond.instanceMethod yX7_joinSet, Cond.selects RX7 yX7_joinSet yX7_joinSet, Cond.code yX7_joinSet cX7_joinSet 5 (some .int), Cond.fieldLink RX7 26 "CycleHouse" "groups" "LCycleHouse$Groups;", Cond.methodLink RX7 230 yX3_part, Cond.instanceMethod yX3_part, Cond.selects RX3 yX3_part yX3_part, Cond.initialized RX3, Cond.code yX3_part cX3_part 3 none, Cond.fieldLink RX3 19 "CycleHouse$Groups" "vertices" "I", Cond.fieldLink RX3 23 "CycleHouse$Groups" "count" "I", Cond.fieldLink RX3 9 "CycleHouse$Groups" "name" "[I", Cond.fieldLink RX3 15 "CycleHouse$Groups" "way" "[J", Cond.methodLink RX7 233 yX7_has]
def wsX7_lightest_r2 : List Cond := [Cond.static yX7_has, Cond.code yX7_has cX7_has 3 (some .boolean), Cond.methodLink RX7 237 yX3_join, Cond.instanceMethod yX3_join, Cond.selects RX3 yX3_join yX3_join, Cond.code yX3_join cX3_join 7 (some .long), Cond.methodLink RX3 34 yX3_together, Cond.instanceMethod yX3_together, Cond.selects RX3 yX3_together yX3_together, Cond.code yX3_together cX3_together 3 (some .boolean), Cond.methodLink RX3 38 yX3_merge, Cond.instanceMethod yX3_merge, Cond.selects RX3 yX3_merge yX3_merge, Cond.code yX3_merge cX3_merge 6 none, Cond.methodLink RX7 124 yX2_weigh, Cond.instanceMethod yX2_weigh, Cond.selects RX2 yX2_weigh yX2_weigh, Cond.initialized RX2, Cond.code yX2_weigh cX2_weigh 3 (some .long), Cond.methodLink RX2 32 yX2_gain, Cond.instanceMethod yX2_gain, Cond.selects RX2 yX2_gain yX2_gain, Cond.code yX2_gain cX2_gain 11 (some .long), Cond.fieldLink RX2 22 "CycleHouse$Graph" "weight" "[I"]
def wsX7_lightest_r3 : List Cond := [Cond.methodLink RX2 36 yJ13_bitCount_95d88, Cond.static yJ13_bitCount_95d88, Cond.initialized RJ13, Cond.code yJ13_bitCount_95d88 cJ13_bitCount_95d88 2 (some .int), Cond.constantLong RJ13 314 (6148914691236517205), Cond.constantLong RJ13 316 (3689348814741910323), Cond.constantLong RJ13 318 (1085102592571150095), Cond.methodLink RX2 42 yJ13_numberOfTrailingZeros_95d88, Cond.static yJ13_numberOfTrailingZeros_95d88, Cond.code yJ13_numberOfTrailingZeros_95d88 cJ13_numberOfTrailingZeros_95d88 3 (some .int), Cond.methodLink RJ13 311 yJ6_numberOfTrailingZeros_0f7a4, Cond.static yJ6_numberOfTrailingZeros_0f7a4, Cond.initialized RJ6, Cond.code yJ6_numberOfTrailingZeros_0f7a4 cJ6_numberOfTrailingZeros_0f7a4 2 (some .int), Cond.constant RJ6 264 (65536), Cond.methodLink RX7 128 yX7_weightOfLightestJoins, Cond.instanceMethod yX7_weightOfLightestJoins, Cond.selects RX7 yX7_weightOfLightestJoins yX7_weightOfLightestJoins, Cond.code yX7_weightOfLightestJoins cX7_weightOfLightestJoins 5 (some .long), Cond.methodLink RX7 241 yX7_lightestJoin, Cond.instanceMethod yX7_lightestJoin, Cond.selects RX7 yX7_lightestJoin yX7_lightestJoin, Cond.code yX7_lightestJoin cX7_lightestJoin 3 (some .int), Cond.methodLink RX7 95 yX3_together]
def wsX7_lightest : List Cond := .code yX7_lightest cX7_lightest 3 (some .long) :: ((wsX7_lightest_r1 ++ (wsX7_lightest_r2 ++ wsX7_lightest_r3)) ++ wsX70 ++ wsX20 ++ wsX30 ++ (vx_atS RX7 66 "java/lang/IllegalArgumentException" ["java/lang/RuntimeException", "java/lang/Exception"]).filter goodWord)
def wsX7_isCycle_r1 : List Cond := [Cond.fieldLink RX7 10 "CycleHouse" "graph" "LCycleHouse$Graph;", Cond.methodLink RX7 110 yX7_checkEdges, Cond.instanceMethod yX7_checkEdges, Cond.selects RX7 yX7_checkEdges yX7_checkEdges, Cond.initialized RX7, Cond.code yX7_checkEdges cX7_checkEdges 3 none, Cond.classLink RX7 62 "java/lang/IllegalArgumentException", Cond.initialized "java/lang/IllegalArgumentException", Cond.methodLink RX7 132 yX2_isEven, Cond.instanceMethod yX2_isEven, Cond.selects RX2 yX2_isEven yX2_isEven, Cond.initialized RX2, Cond.code yX2_isEven cX2_isEven 5 (some .boolean), Cond.fieldLink RX2 25 "CycleHouse$Graph" "edges" "I", Cond.fieldLink RX2 15 "CycleHouse$Graph" "from" "[I", Cond.fieldLink RX2 19 "CycleHouse$Graph" "to" "[I", Cond.static yX7_has, Cond.code yX7_has cX7_has 3 (some .boolean), Cond.methodLink RX7 114 yX7_joinSet, Cond.instanceMethod yX7_joinSet, Cond.selects RX7 yX7_joinSet yX7_joinSet, Cond.code yX7_joinSet cX7_joinSet 5 (some .int), Cond.fieldLink RX7 26 "CycleHouse" "groups" "LCycleHouse$Groups;", Cond.methodLink RX7 230 yX3_part]
def wsX7_isCycle_r2 : List Cond := [Cond.instanceMethod yX3_part, Cond.selects RX3 yX3_part yX3_part, Cond.initialized RX3, Cond.code yX3_part cX3_part 3 none, Cond.fieldLink RX3 19 "CycleHouse$Groups" "vertices" "I", Cond.fieldLink RX3 23 "CycleHouse$Groups" "count" "I", Cond.fieldLink RX3 9 "CycleHouse$Groups" "name" "[I", Cond.fieldLink RX3 15 "CycleHouse$Groups" "way" "[J", Cond.methodLink RX7 233 yX7_has, Cond.methodLink RX7 237 yX3_join, Cond.instanceMethod yX3_join, Cond.selects RX3 yX3_join yX3_join, Cond.code yX3_join cX3_join 7 (some .long), Cond.methodLink RX3 34 yX3_together, Cond.instanceMethod yX3_together, Cond.selects RX3 yX3_together yX3_together, Cond.code yX3_together cX3_together 3 (some .boolean), Cond.methodLink RX3 38 yX3_merge, Cond.instanceMethod yX3_merge, Cond.selects RX3 yX3_merge yX3_merge, Cond.code yX3_merge cX3_merge 6 none]
def wsX7_isCycle : List Cond := .code yX7_isCycle cX7_isCycle 3 (some .int) :: ((wsX7_isCycle_r1 ++ wsX7_isCycle_r2) ++ wsX70 ++ wsX20 ++ wsX30 ++ (vx_atS RX7 66 "java/lang/IllegalArgumentException" ["java/lang/RuntimeException", "java/lang/Exception"]).filter goodWord)
def wsX7_through_r1 : List Cond := [Cond.classLink RX7 136 "java/util/NoSuchElementException", Cond.initialized "java/util/NoSuchElementException", Cond.fieldLink RX7 10 "CycleHouse" "graph" "LCycleHouse$Graph;", Cond.fieldLink RX7 33 "CycleHouse" "ways" "LCycleHouse$Ways;", Cond.constantLong RX7 122 (-1), Cond.methodLink RX7 145 yX6_seek, Cond.instanceMethod yX6_seek, Cond.selects RX6 yX6_seek yX6_seek, Cond.initialized RX6, Cond.code yX6_seek cX6_seek 6 none, Cond.fieldLink RX6 9 "CycleHouse$Ways" "length" "[J", Cond.constantLong RX6 24 (1152921504606846976), Cond.fieldLink RX6 15 "CycleHouse$Ways" "way" "[J", Cond.methodLink RX6 26 yX6_shortenAll, Cond.instanceMethod yX6_shortenAll, Cond.selects RX6 yX6_shortenAll yX6_shortenAll, Cond.code yX6_shortenAll cX6_shortenAll 7 (some .boolean), Cond.methodLink RX6 43 yX6_shorten, Cond.instanceMethod yX6_shorten, Cond.selects RX6 yX6_shorten yX6_shorten, Cond.code yX6_shorten cX6_shorten 5 (some .boolean), Cond.methodLink RX7 152 yX6_reaches, Cond.instanceMethod yX6_reaches, Cond.selects RX6 yX6_reaches yX6_reaches]
def wsX7_through_r2 : List Cond := [Cond.code yX6_reaches cX6_reaches 2 (some .boolean)]
def wsX7_through : List Cond := .code yX7_through cX7_through 3 (some .long) :: ((wsX7_through_r1 ++ wsX7_through_r2) ++ wsX70 ++ wsX20 ++ wsX60 ++ (vx_atS RX7 140 "java/util/NoSuchElementException" ["java/lang/RuntimeException", "java/lang/Exception"]).filter goodWord)
def wsX7_basis_r1 : List Cond := [Cond.classLink RX7 136 "java/util/NoSuchElementException", Cond.initialized "java/util/NoSuchElementException", Cond.fieldLink RX7 40 "CycleHouse" "lightBasis" "LCycleHouse$LightBasis;", Cond.fieldLink RX7 10 "CycleHouse" "graph" "LCycleHouse$Graph;", Cond.fieldLink RX7 33 "CycleHouse" "ways" "LCycleHouse$Ways;", Cond.methodLink RX7 91 yX7_joinWhole, Cond.instanceMethod yX7_joinWhole, Cond.selects RX7 yX7_joinWhole yX7_joinWhole, Cond.initialized RX7, Cond.code yX7_joinWhole cX7_joinWhole 1 (some .int), Cond.methodLink RX7 114 yX7_joinSet, Cond.instanceMethod yX7_joinSet, Cond.selects RX7 yX7_joinSet yX7_joinSet, Cond.code yX7_joinSet cX7_joinSet 5 (some .int), Cond.fieldLink RX7 26 "CycleHouse" "groups" "LCycleHouse$Groups;", Cond.methodLink RX7 230 yX3_part, Cond.instanceMethod yX3_part, Cond.selects RX3 yX3_part yX3_part, Cond.initialized RX3, Cond.code yX3_part cX3_part 3 none, Cond.fieldLink RX3 19 "CycleHouse$Groups" "vertices" "I", Cond.fieldLink RX3 23 "CycleHouse$Groups" "count" "I", Cond.fieldLink RX3 9 "CycleHouse$Groups" "name" "[I", Cond.fieldLink RX3 15 "CycleHouse$Groups" "way" "[J"]
def wsX7_basis_r2 : List Cond := [Cond.methodLink RX7 233 yX7_has, Cond.static yX7_has, Cond.code yX7_has cX7_has 3 (some .boolean), Cond.methodLink RX7 237 yX3_join, Cond.instanceMethod yX3_join, Cond.selects RX3 yX3_join yX3_join, Cond.code yX3_join cX3_join 7 (some .long), Cond.methodLink RX3 34 yX3_together, Cond.instanceMethod yX3_together, Cond.selects RX3 yX3_together yX3_together, Cond.code yX3_together cX3_together 3 (some .boolean), Cond.methodLink RX3 38 yX3_merge, Cond.instanceMethod yX3_merge, Cond.selects RX3 yX3_merge yX3_merge, Cond.code yX3_merge cX3_merge 6 none, Cond.methodLink RX7 163 yX4_find, Cond.instanceMethod yX4_find, Cond.selects RX4 yX4_find yX4_find, Cond.initialized RX4, Cond.code yX4_find cX4_find 4 none, Cond.fieldLink RX4 28 "CycleHouse$LightBasis" "size" "I", Cond.fieldLink RX4 9 "CycleHouse$LightBasis" "ring" "[J", Cond.fieldLink RX4 18 "CycleHouse$LightBasis" "left" "[J", Cond.fieldLink RX4 15 "CycleHouse$LightBasis" "weight" "[J"]
def wsX7_basis_r3 : List Cond := [Cond.fieldLink RX4 21 "CycleHouse$LightBasis" "leftWeight" "[J", Cond.methodLink RX4 24 yX4_gatherAll, Cond.instanceMethod yX4_gatherAll, Cond.selects RX4 yX4_gatherAll yX4_gatherAll, Cond.code yX4_gatherAll cX4_gatherAll 5 none, Cond.fieldLink RX4 44 "CycleHouse$LightBasis" "candidates" "I", Cond.methodLink RX4 52 yX6_seek, Cond.instanceMethod yX6_seek, Cond.selects RX6 yX6_seek yX6_seek, Cond.initialized RX6, Cond.code yX6_seek cX6_seek 6 none, Cond.fieldLink RX6 9 "CycleHouse$Ways" "length" "[J", Cond.constantLong RX6 24 (1152921504606846976), Cond.fieldLink RX6 15 "CycleHouse$Ways" "way" "[J", Cond.methodLink RX6 26 yX6_shortenAll, Cond.instanceMethod yX6_shortenAll, Cond.selects RX6 yX6_shortenAll yX6_shortenAll, Cond.code yX6_shortenAll cX6_shortenAll 7 (some .boolean), Cond.methodLink RX6 43 yX6_shorten, Cond.instanceMethod yX6_shorten, Cond.selects RX6 yX6_shorten yX6_shorten, Cond.code yX6_shorten cX6_shorten 5 (some .boolean), Cond.methodLink RX4 61 yX4_gather, Cond.instanceMethod yX4_gather]
def wsX7_basis_r4 : List Cond := [Cond.selects RX4 yX4_gather yX4_gather, Cond.code yX4_gather cX4_gather 8 none, Cond.methodLink RX4 75 yX6_reaches, Cond.instanceMethod yX6_reaches, Cond.selects RX6 yX6_reaches yX6_reaches, Cond.code yX6_reaches cX6_reaches 2 (some .boolean), Cond.methodLink RX4 32 yX4_lightestLeft, Cond.instanceMethod yX4_lightestLeft, Cond.selects RX4 yX4_lightestLeft yX4_lightestLeft, Cond.code yX4_lightestLeft cX4_lightestLeft 3 (some .int), Cond.methodLink RX4 36 yX4_strike, Cond.instanceMethod yX4_strike, Cond.selects RX4 yX4_strike yX4_strike, Cond.code yX4_strike cX4_strike 4 none, Cond.methodLink RX4 40 yX4_mark, Cond.static yX4_mark, Cond.code yX4_mark cX4_mark 2 (some .long)]
def wsX7_basis : List Cond := .code yX7_basis cX7_basis 2 (some .long) :: ((wsX7_basis_r1 ++ (wsX7_basis_r2 ++ (wsX7_basis_r3 ++ wsX7_basis_r4))) ++ wsX70 ++ wsX40 ++ wsX20 ++ wsX30 ++ wsX60 ++ (vx_atS RX7 140 "java/util/NoSuchElementException" ["java/lang/RuntimeException", "java/lang/Exception"]).filter goodWord)
def wsX7_belongs_r1 : List Cond := [Cond.fieldLink RX7 10 "CycleHouse" "graph" "LCycleHouse$Graph;", Cond.fieldLink RX7 40 "CycleHouse" "lightBasis" "LCycleHouse$LightBasis;", Cond.fieldLink RX7 33 "CycleHouse" "ways" "LCycleHouse$Ways;", Cond.methodLink RX7 110 yX7_checkEdges, Cond.instanceMethod yX7_checkEdges, Cond.selects RX7 yX7_checkEdges yX7_checkEdges, Cond.initialized RX7, Cond.code yX7_checkEdges cX7_checkEdges 3 none, Cond.classLink RX7 62 "java/lang/IllegalArgumentException", Cond.initialized "java/lang/IllegalArgumentException", Cond.methodLink RX7 132 yX2_isEven, Cond.instanceMethod yX2_isEven, Cond.selects RX2 yX2_isEven yX2_isEven, Cond.initialized RX2, Cond.code yX2_isEven cX2_isEven 5 (some .boolean), Cond.fieldLink RX2 25 "CycleHouse$Graph" "edges" "I", Cond.fieldLink RX2 15 "CycleHouse$Graph" "from" "[I", Cond.fieldLink RX2 19 "CycleHouse$Graph" "to" "[I", Cond.static yX7_has, Cond.code yX7_has cX7_has 3 (some .boolean), Cond.methodLink RX7 163 yX4_find, Cond.instanceMethod yX4_find, Cond.selects RX4 yX4_find yX4_find, Cond.initialized RX4]
def wsX7_belongs_r2 : List Cond := [Cond.code yX4_find cX4_find 4 none, Cond.fieldLink RX4 28 "CycleHouse$LightBasis" "size" "I", Cond.fieldLink RX4 9 "CycleHouse$LightBasis" "ring" "[J", Cond.fieldLink RX4 18 "CycleHouse$LightBasis" "left" "[J", Cond.fieldLink RX4 15 "CycleHouse$LightBasis" "weight" "[J", Cond.fieldLink RX4 21 "CycleHouse$LightBasis" "leftWeight" "[J", Cond.methodLink RX4 24 yX4_gatherAll, Cond.instanceMethod yX4_gatherAll, Cond.selects RX4 yX4_gatherAll yX4_gatherAll, Cond.code yX4_gatherAll cX4_gatherAll 5 none, Cond.fieldLink RX4 44 "CycleHouse$LightBasis" "candidates" "I", Cond.methodLink RX4 52 yX6_seek, Cond.instanceMethod yX6_seek, Cond.selects RX6 yX6_seek yX6_seek, Cond.initialized RX6, Cond.code yX6_seek cX6_seek 6 none, Cond.fieldLink RX6 9 "CycleHouse$Ways" "length" "[J", Cond.constantLong RX6 24 (1152921504606846976), Cond.fieldLink RX6 15 "CycleHouse$Ways" "way" "[J", Cond.methodLink RX6 26 yX6_shortenAll, Cond.instanceMethod yX6_shortenAll, Cond.selects RX6 yX6_shortenAll yX6_shortenAll, Cond.code yX6_shortenAll cX6_shortenAll 7 (some .boolean), Cond.methodLink RX6 43 yX6_shorten]
def wsX7_belongs_r3 : List Cond := [Cond.instanceMethod yX6_shorten, Cond.selects RX6 yX6_shorten yX6_shorten, Cond.code yX6_shorten cX6_shorten 5 (some .boolean), Cond.methodLink RX4 61 yX4_gather, Cond.instanceMethod yX4_gather, Cond.selects RX4 yX4_gather yX4_gather, Cond.code yX4_gather cX4_gather 8 none, Cond.methodLink RX4 75 yX6_reaches, Cond.instanceMethod yX6_reaches, Cond.selects RX6 yX6_reaches yX6_reaches, Cond.code yX6_reaches cX6_reaches 2 (some .boolean), Cond.methodLink RX4 32 yX4_lightestLeft, Cond.instanceMethod yX4_lightestLeft, Cond.selects RX4 yX4_lightestLeft yX4_lightestLeft, Cond.code yX4_lightestLeft cX4_lightestLeft 3 (some .int), Cond.methodLink RX4 36 yX4_strike, Cond.instanceMethod yX4_strike, Cond.selects RX4 yX4_strike yX4_strike, Cond.code yX4_strike cX4_strike 4 none, Cond.methodLink RX4 40 yX4_mark, Cond.static yX4_mark, Cond.code yX4_mark cX4_mark 2 (some .long), Cond.methodLink RX7 124 yX2_weigh, Cond.instanceMethod yX2_weigh]
def wsX7_belongs_r4 : List Cond := [Cond.selects RX2 yX2_weigh yX2_weigh, Cond.code yX2_weigh cX2_weigh 3 (some .long), Cond.methodLink RX2 32 yX2_gain, Cond.instanceMethod yX2_gain, Cond.selects RX2 yX2_gain yX2_gain, Cond.code yX2_gain cX2_gain 11 (some .long), Cond.fieldLink RX2 22 "CycleHouse$Graph" "weight" "[I", Cond.methodLink RX2 36 yJ13_bitCount_95d88, Cond.static yJ13_bitCount_95d88, Cond.initialized RJ13, Cond.code yJ13_bitCount_95d88 cJ13_bitCount_95d88 2 (some .int), Cond.constantLong RJ13 314 (6148914691236517205), Cond.constantLong RJ13 316 (3689348814741910323), Cond.constantLong RJ13 318 (1085102592571150095), Cond.methodLink RX2 42 yJ13_numberOfTrailingZeros_95d88, Cond.static yJ13_numberOfTrailingZeros_95d88, Cond.code yJ13_numberOfTrailingZeros_95d88 cJ13_numberOfTrailingZeros_95d88 3 (some .int), Cond.methodLink RJ13 311 yJ6_numberOfTrailingZeros_0f7a4, Cond.static yJ6_numberOfTrailingZeros_0f7a4, Cond.initialized RJ6, Cond.code yJ6_numberOfTrailingZeros_0f7a4 cJ6_numberOfTrailingZeros_0f7a4 2 (some .int), Cond.constant RJ6 264 (65536), Cond.methodLink RX7 169 yX4_isSumOfLighter, Cond.instanceMethod yX4_isSumOfLighter]
def wsX7_belongs_r5 : List Cond := [Cond.selects RX4 yX4_isSumOfLighter yX4_isSumOfLighter, Cond.code yX4_isSumOfLighter cX4_isSumOfLighter 8 (some .boolean)]
def wsX7_belongs : List Cond := .code yX7_belongs cX7_belongs 3 (some .boolean) :: ((wsX7_belongs_r1 ++ (wsX7_belongs_r2 ++ (wsX7_belongs_r3 ++ (wsX7_belongs_r4 ++ wsX7_belongs_r5)))) ++ wsX70 ++ wsX20 ++ wsX40 ++ wsX60 ++ (vx_atS RX7 66 "java/lang/IllegalArgumentException" ["java/lang/RuntimeException", "java/lang/Exception"]).filter goodWord)
def wsX7_cycles : List Cond := .code yX7_cycles cX7_cycles 1 (some .int) :: ([.fieldLink RX7 54 "CycleHouse" "cycleCount" "LCycleHouse$CycleCount;", .fieldLink RX7 10 "CycleHouse" "graph" "LCycleHouse$Graph;", .methodLink RX7 173 yX0_count, .instanceMethod yX0_count, .selects RX0 yX0_count yX0_count, .initialized RX0, .code yX0_count cX0_count 6 (some .int), .fieldLink RX0 11 "CycleHouse$CycleCount" "between" "[[I", .methodLink RX0 16 yJ7_fill_53178, .static yJ7_fill_53178, .initialized RJ7, .code yJ7_fill_53178 cJ7_fill_53178 4 none, .methodLink RX0 35 yX0_paths, .static yX0_paths, .code yX0_paths cX0_paths 7 (some .int)] ++ wsX70 ++ wsX00 ++ wsX20)
def wsX7_fillRings : List Cond := .code yX7_fillRings cX7_fillRings 5 (some .int) :: ([.fieldLink RX7 26 "CycleHouse" "groups" "LCycleHouse$Groups;", .fieldLink RX7 10 "CycleHouse" "graph" "LCycleHouse$Graph;", .fieldLink RX7 58 "CycleHouse" "rings" "[J", .methodLink RX7 230 yX3_part, .instanceMethod yX3_part, .selects RX3 yX3_part yX3_part, .initialized RX3, .code yX3_part cX3_part 3 none, .fieldLink RX3 19 "CycleHouse$Groups" "vertices" "I", .fieldLink RX3 23 "CycleHouse$Groups" "count" "I", .fieldLink RX3 9 "CycleHouse$Groups" "name" "[I", .fieldLink RX3 15 "CycleHouse$Groups" "way" "[J", .methodLink RX7 237 yX3_join, .instanceMethod yX3_join, .selects RX3 yX3_join yX3_join, .code yX3_join cX3_join 7 (some .long), .methodLink RX3 34 yX3_together, .instanceMethod yX3_together, .selects RX3 yX3_together yX3_together, .code yX3_together cX3_together 3 (some .boolean), .methodLink RX3 38 yX3_merge, .instanceMethod yX3_merge, .selects RX3 yX3_merge yX3_merge, .code yX3_merge cX3_merge 6 none] ++ wsX70 ++ wsX20 ++ wsX30)
def wsX7_light_r1 : List Cond := [Cond.fieldLink RX7 58 "CycleHouse" "rings" "[J", Cond.fieldLink RX7 10 "CycleHouse" "graph" "LCycleHouse$Graph;", Cond.methodLink RX7 176 yX7_fillRings, Cond.instanceMethod yX7_fillRings, Cond.selects RX7 yX7_fillRings yX7_fillRings, Cond.initialized RX7, Cond.code yX7_fillRings cX7_fillRings 5 (some .int), Cond.fieldLink RX7 26 "CycleHouse" "groups" "LCycleHouse$Groups;", Cond.methodLink RX7 230 yX3_part, Cond.instanceMethod yX3_part, Cond.selects RX3 yX3_part yX3_part, Cond.initialized RX3, Cond.code yX3_part cX3_part 3 none, Cond.fieldLink RX3 19 "CycleHouse$Groups" "vertices" "I", Cond.fieldLink RX3 23 "CycleHouse$Groups" "count" "I", Cond.fieldLink RX3 9 "CycleHouse$Groups" "name" "[I", Cond.fieldLink RX3 15 "CycleHouse$Groups" "way" "[J", Cond.methodLink RX7 237 yX3_join, Cond.instanceMethod yX3_join, Cond.selects RX3 yX3_join yX3_join, Cond.code yX3_join cX3_join 7 (some .long), Cond.methodLink RX3 34 yX3_together, Cond.instanceMethod yX3_together, Cond.selects RX3 yX3_together yX3_together]
def wsX7_light_r2 : List Cond := [Cond.code yX3_together cX3_together 3 (some .boolean), Cond.methodLink RX3 38 yX3_merge, Cond.instanceMethod yX3_merge, Cond.selects RX3 yX3_merge yX3_merge, Cond.code yX3_merge cX3_merge 6 none, Cond.methodLink RX7 179 yJ6_numberOfTrailingZeros_0f7a4, Cond.static yJ6_numberOfTrailingZeros_0f7a4, Cond.initialized RJ6, Cond.code yJ6_numberOfTrailingZeros_0f7a4 cJ6_numberOfTrailingZeros_0f7a4 2 (some .int), Cond.constant RJ6 264 (65536), Cond.methodLink RX7 185 yX2_gain, Cond.instanceMethod yX2_gain, Cond.selects RX2 yX2_gain yX2_gain, Cond.initialized RX2, Cond.code yX2_gain cX2_gain 11 (some .long), Cond.fieldLink RX2 22 "CycleHouse$Graph" "weight" "[I", Cond.methodLink RX2 36 yJ13_bitCount_95d88, Cond.static yJ13_bitCount_95d88, Cond.initialized RJ13, Cond.code yJ13_bitCount_95d88 cJ13_bitCount_95d88 2 (some .int), Cond.constantLong RJ13 314 (6148914691236517205), Cond.constantLong RJ13 316 (3689348814741910323), Cond.constantLong RJ13 318 (1085102592571150095), Cond.methodLink RX2 42 yJ13_numberOfTrailingZeros_95d88]
def wsX7_light_r3 : List Cond := [Cond.static yJ13_numberOfTrailingZeros_95d88, Cond.code yJ13_numberOfTrailingZeros_95d88 cJ13_numberOfTrailingZeros_95d88 3 (some .int), Cond.methodLink RJ13 311 yJ6_numberOfTrailingZeros_0f7a4, Cond.static yX7_has, Cond.code yX7_has cX7_has 3 (some .boolean)]
def wsX7_light : List Cond := .code yX7_light cX7_light 12 (some .int) :: ((wsX7_light_r1 ++ (wsX7_light_r2 ++ wsX7_light_r3)) ++ wsX70 ++ wsX20 ++ wsX30)
def wsX7_checkListed : List Cond := .code yX7_checkListed cX7_checkListed 3 none :: ([.classLink RX7 62 "java/lang/IllegalArgumentException", .initialized "java/lang/IllegalArgumentException"] ++ (vx_atS RX7 66 "java/lang/IllegalArgumentException" ["java/lang/RuntimeException", "java/lang/Exception"]).filter goodWord)
def wsX7_add_r1 : List Cond := [Cond.classLink RX7 86 "java/lang/IllegalStateException", Cond.initialized "java/lang/IllegalStateException", Cond.fieldLink RX7 19 "CycleHouse" "list" "LCycleHouse$SetList;", Cond.methodLink RX7 189 yX7_checkListed, Cond.instanceMethod yX7_checkListed, Cond.selects RX7 yX7_checkListed yX7_checkListed, Cond.initialized RX7, Cond.code yX7_checkListed cX7_checkListed 3 none, Cond.classLink RX7 62 "java/lang/IllegalArgumentException", Cond.initialized "java/lang/IllegalArgumentException", Cond.methodLink RX7 197 yX5_append, Cond.instanceMethod yX5_append, Cond.selects RX5 yX5_append yX5_append, Cond.initialized RX5, Cond.code yX5_append cX5_append 5 (some .int), Cond.fieldLink RX5 9 "CycleHouse$SetList" "row" "[J", Cond.fieldLink RX5 25 "CycleHouse$SetList" "rank" "I", Cond.fieldLink RX5 29 "CycleHouse$SetList" "sets" "I", Cond.methodLink RX5 15 yX5_rest, Cond.instanceMethod yX5_rest, Cond.selects RX5 yX5_rest yX5_rest, Cond.code yX5_rest cX5_rest 6 (some .long), Cond.static yX7_has, Cond.code yX7_has cX7_has 3 (some .boolean)]
def wsX7_add_r2 : List Cond := [Cond.methodLink RX5 19 yJ13_numberOfTrailingZeros_95d88, Cond.static yJ13_numberOfTrailingZeros_95d88, Cond.initialized RJ13, Cond.code yJ13_numberOfTrailingZeros_95d88 cJ13_numberOfTrailingZeros_95d88 3 (some .int), Cond.methodLink RJ13 311 yJ6_numberOfTrailingZeros_0f7a4, Cond.static yJ6_numberOfTrailingZeros_0f7a4, Cond.initialized RJ6, Cond.code yJ6_numberOfTrailingZeros_0f7a4 cJ6_numberOfTrailingZeros_0f7a4 2 (some .int), Cond.constant RJ6 264 (65536)]
def wsX7_add : List Cond := .code yX7_add cX7_add 3 (some .int) :: ((wsX7_add_r1 ++ wsX7_add_r2) ++ wsX70 ++ wsX50 ++ (vx_atS RX7 90 "java/lang/IllegalStateException" ["java/lang/RuntimeException", "java/lang/Exception"]).filter goodWord ++ (vx_atS RX7 66 "java/lang/IllegalArgumentException" ["java/lang/RuntimeException", "java/lang/Exception"]).filter goodWord)
def wsX7_clear : List Cond := .code yX7_clear cX7_clear 2 (some .int) :: ([.fieldLink RX7 19 "CycleHouse" "list" "LCycleHouse$SetList;", .methodLink RX7 199 yX5_empty, .instanceMethod yX5_empty, .selects RX5 yX5_empty yX5_empty, .initialized RX5, .code yX5_empty cX5_empty 1 none, .fieldLink RX5 29 "CycleHouse$SetList" "sets" "I", .fieldLink RX5 25 "CycleHouse$SetList" "rank" "I", .fieldLink RX5 9 "CycleHouse$SetList" "row" "[J", .methodLink RX5 32 yJ7_fill_d0a16, .static yJ7_fill_d0a16, .initialized RJ7, .code yJ7_fill_d0a16 cJ7_fill_d0a16 5 none] ++ wsX70 ++ wsX50)
def wsX7_spans : List Cond := .code yX7_spans cX7_spans 3 (some .boolean) :: ([.fieldLink RX7 19 "CycleHouse" "list" "LCycleHouse$SetList;", .methodLink RX7 189 yX7_checkListed, .instanceMethod yX7_checkListed, .selects RX7 yX7_checkListed yX7_checkListed, .initialized RX7, .code yX7_checkListed cX7_checkListed 3 none, .classLink RX7 62 "java/lang/IllegalArgumentException", .initialized "java/lang/IllegalArgumentException", .methodLink RX7 202 yX5_rest, .instanceMethod yX5_rest, .selects RX5 yX5_rest yX5_rest, .initialized RX5, .code yX5_rest cX5_rest 6 (some .long), .fieldLink RX5 9 "CycleHouse$SetList" "row" "[J", .static yX7_has, .code yX7_has cX7_has 3 (some .boolean)] ++ wsX70 ++ wsX50 ++ (vx_atS RX7 66 "java/lang/IllegalArgumentException" ["java/lang/RuntimeException", "java/lang/Exception"]).filter goodWord)
def wsX7_countGroups_r1 : List Cond := [Cond.fieldLink RX7 26 "CycleHouse" "groups" "LCycleHouse$Groups;", Cond.methodLink RX7 91 yX7_joinWhole, Cond.instanceMethod yX7_joinWhole, Cond.selects RX7 yX7_joinWhole yX7_joinWhole, Cond.initialized RX7, Cond.code yX7_joinWhole cX7_joinWhole 1 (some .int), Cond.fieldLink RX7 10 "CycleHouse" "graph" "LCycleHouse$Graph;", Cond.methodLink RX7 114 yX7_joinSet, Cond.instanceMethod yX7_joinSet, Cond.selects RX7 yX7_joinSet yX7_joinSet, Cond.code yX7_joinSet cX7_joinSet 5 (some .int), Cond.methodLink RX7 230 yX3_part, Cond.instanceMethod yX3_part, Cond.selects RX3 yX3_part yX3_part, Cond.initialized RX3, Cond.code yX3_part cX3_part 3 none, Cond.fieldLink RX3 19 "CycleHouse$Groups" "vertices" "I", Cond.fieldLink RX3 23 "CycleHouse$Groups" "count" "I", Cond.fieldLink RX3 9 "CycleHouse$Groups" "name" "[I", Cond.fieldLink RX3 15 "CycleHouse$Groups" "way" "[J", Cond.methodLink RX7 233 yX7_has, Cond.static yX7_has, Cond.code yX7_has cX7_has 3 (some .boolean), Cond.methodLink RX7 237 yX3_join]
def wsX7_countGroups_r2 : List Cond := [Cond.instanceMethod yX3_join, Cond.selects RX3 yX3_join yX3_join, Cond.code yX3_join cX3_join 7 (some .long), Cond.methodLink RX3 34 yX3_together, Cond.instanceMethod yX3_together, Cond.selects RX3 yX3_together yX3_together, Cond.code yX3_together cX3_together 3 (some .boolean), Cond.methodLink RX3 38 yX3_merge, Cond.instanceMethod yX3_merge, Cond.selects RX3 yX3_merge yX3_merge, Cond.code yX3_merge cX3_merge 6 none]
def wsX7_countGroups : List Cond := .code yX7_countGroups cX7_countGroups 1 (some .int) :: ((wsX7_countGroups_r1 ++ wsX7_countGroups_r2) ++ wsX70 ++ wsX30 ++ wsX20)
def wsX7_countEdgesInNoCycle_r1 : List Cond := [Cond.fieldLink RX7 58 "CycleHouse" "rings" "[J", Cond.fieldLink RX7 10 "CycleHouse" "graph" "LCycleHouse$Graph;", Cond.methodLink RX7 176 yX7_fillRings, Cond.instanceMethod yX7_fillRings, Cond.selects RX7 yX7_fillRings yX7_fillRings, Cond.initialized RX7, Cond.code yX7_fillRings cX7_fillRings 5 (some .int), Cond.fieldLink RX7 26 "CycleHouse" "groups" "LCycleHouse$Groups;", Cond.methodLink RX7 230 yX3_part, Cond.instanceMethod yX3_part, Cond.selects RX3 yX3_part yX3_part, Cond.initialized RX3, Cond.code yX3_part cX3_part 3 none, Cond.fieldLink RX3 19 "CycleHouse$Groups" "vertices" "I", Cond.fieldLink RX3 23 "CycleHouse$Groups" "count" "I", Cond.fieldLink RX3 9 "CycleHouse$Groups" "name" "[I", Cond.fieldLink RX3 15 "CycleHouse$Groups" "way" "[J", Cond.methodLink RX7 237 yX3_join, Cond.instanceMethod yX3_join, Cond.selects RX3 yX3_join yX3_join, Cond.code yX3_join cX3_join 7 (some .long), Cond.methodLink RX3 34 yX3_together, Cond.instanceMethod yX3_together, Cond.selects RX3 yX3_together yX3_together]
def wsX7_countEdgesInNoCycle_r2 : List Cond := [Cond.code yX3_together cX3_together 3 (some .boolean), Cond.methodLink RX3 38 yX3_merge, Cond.instanceMethod yX3_merge, Cond.selects RX3 yX3_merge yX3_merge, Cond.code yX3_merge cX3_merge 6 none, Cond.methodLink RX7 246 yJ13_bitCount_95d88, Cond.static yJ13_bitCount_95d88, Cond.initialized RJ13, Cond.code yJ13_bitCount_95d88 cJ13_bitCount_95d88 2 (some .int), Cond.constantLong RJ13 314 (6148914691236517205), Cond.constantLong RJ13 316 (3689348814741910323), Cond.constantLong RJ13 318 (1085102592571150095)]
def wsX7_countEdgesInNoCycle : List Cond := .code yX7_countEdgesInNoCycle cX7_countEdgesInNoCycle 5 (some .int) :: ((wsX7_countEdgesInNoCycle_r1 ++ wsX7_countEdgesInNoCycle_r2) ++ wsX70 ++ wsX20 ++ wsX30)
def wsX7_hasOddCycle_r1 : List Cond := [Cond.fieldLink RX7 58 "CycleHouse" "rings" "[J", Cond.methodLink RX7 176 yX7_fillRings, Cond.instanceMethod yX7_fillRings, Cond.selects RX7 yX7_fillRings yX7_fillRings, Cond.initialized RX7, Cond.code yX7_fillRings cX7_fillRings 5 (some .int), Cond.fieldLink RX7 26 "CycleHouse" "groups" "LCycleHouse$Groups;", Cond.fieldLink RX7 10 "CycleHouse" "graph" "LCycleHouse$Graph;", Cond.methodLink RX7 230 yX3_part, Cond.instanceMethod yX3_part, Cond.selects RX3 yX3_part yX3_part, Cond.initialized RX3, Cond.code yX3_part cX3_part 3 none, Cond.fieldLink RX3 19 "CycleHouse$Groups" "vertices" "I", Cond.fieldLink RX3 23 "CycleHouse$Groups" "count" "I", Cond.fieldLink RX3 9 "CycleHouse$Groups" "name" "[I", Cond.fieldLink RX3 15 "CycleHouse$Groups" "way" "[J", Cond.methodLink RX7 237 yX3_join, Cond.instanceMethod yX3_join, Cond.selects RX3 yX3_join yX3_join, Cond.code yX3_join cX3_join 7 (some .long), Cond.methodLink RX3 34 yX3_together, Cond.instanceMethod yX3_together, Cond.selects RX3 yX3_together yX3_together]
def wsX7_hasOddCycle_r2 : List Cond := [Cond.code yX3_together cX3_together 3 (some .boolean), Cond.methodLink RX3 38 yX3_merge, Cond.instanceMethod yX3_merge, Cond.selects RX3 yX3_merge yX3_merge, Cond.code yX3_merge cX3_merge 6 none, Cond.methodLink RX7 246 yJ13_bitCount_95d88, Cond.static yJ13_bitCount_95d88, Cond.initialized RJ13, Cond.code yJ13_bitCount_95d88 cJ13_bitCount_95d88 2 (some .int), Cond.constantLong RJ13 314 (6148914691236517205), Cond.constantLong RJ13 316 (3689348814741910323), Cond.constantLong RJ13 318 (1085102592571150095)]
def wsX7_hasOddCycle : List Cond := .code yX7_hasOddCycle cX7_hasOddCycle 3 (some .boolean) :: ((wsX7_hasOddCycle_r1 ++ wsX7_hasOddCycle_r2) ++ wsX70 ++ wsX20 ++ wsX30)
def wsX7_countCuttingVertices_r1 : List Cond := [Cond.fieldLink RX7 10 "CycleHouse" "graph" "LCycleHouse$Graph;", Cond.fieldLink RX7 26 "CycleHouse" "groups" "LCycleHouse$Groups;", Cond.methodLink RX7 208 yX7_countGroups, Cond.instanceMethod yX7_countGroups, Cond.selects RX7 yX7_countGroups yX7_countGroups, Cond.initialized RX7, Cond.code yX7_countGroups cX7_countGroups 1 (some .int), Cond.methodLink RX7 91 yX7_joinWhole, Cond.instanceMethod yX7_joinWhole, Cond.selects RX7 yX7_joinWhole yX7_joinWhole, Cond.code yX7_joinWhole cX7_joinWhole 1 (some .int), Cond.methodLink RX7 114 yX7_joinSet, Cond.instanceMethod yX7_joinSet, Cond.selects RX7 yX7_joinSet yX7_joinSet, Cond.code yX7_joinSet cX7_joinSet 5 (some .int), Cond.methodLink RX7 230 yX3_part, Cond.instanceMethod yX3_part, Cond.selects RX3 yX3_part yX3_part, Cond.initialized RX3, Cond.code yX3_part cX3_part 3 none, Cond.fieldLink RX3 19 "CycleHouse$Groups" "vertices" "I", Cond.fieldLink RX3 23 "CycleHouse$Groups" "count" "I", Cond.fieldLink RX3 9 "CycleHouse$Groups" "name" "[I", Cond.fieldLink RX3 15 "CycleHouse$Groups" "way" "[J"]
def wsX7_countCuttingVertices_r2 : List Cond := [Cond.methodLink RX7 233 yX7_has, Cond.static yX7_has, Cond.code yX7_has cX7_has 3 (some .boolean), Cond.methodLink RX7 237 yX3_join, Cond.instanceMethod yX3_join, Cond.selects RX3 yX3_join yX3_join, Cond.code yX3_join cX3_join 7 (some .long), Cond.methodLink RX3 34 yX3_together, Cond.instanceMethod yX3_together, Cond.selects RX3 yX3_together yX3_together, Cond.code yX3_together cX3_together 3 (some .boolean), Cond.methodLink RX3 38 yX3_merge, Cond.instanceMethod yX3_merge, Cond.selects RX3 yX3_merge yX3_merge, Cond.code yX3_merge cX3_merge 6 none, Cond.methodLink RX7 251 yX2_edgesApartFrom, Cond.instanceMethod yX2_edgesApartFrom, Cond.selects RX2 yX2_edgesApartFrom yX2_edgesApartFrom, Cond.initialized RX2, Cond.code yX2_edgesApartFrom cX2_edgesApartFrom 5 (some .long), Cond.fieldLink RX2 25 "CycleHouse$Graph" "edges" "I", Cond.fieldLink RX2 15 "CycleHouse$Graph" "from" "[I", Cond.fieldLink RX2 19 "CycleHouse$Graph" "to" "[I"]
def wsX7_countCuttingVertices : List Cond := .code yX7_countCuttingVertices cX7_countCuttingVertices 4 (some .int) :: ((wsX7_countCuttingVertices_r1 ++ wsX7_countCuttingVertices_r2) ++ wsX70 ++ wsX20 ++ wsX30)
def wsX7_look_r1 : List Cond := [Cond.classLink RX7 62 "java/lang/IllegalArgumentException", Cond.initialized "java/lang/IllegalArgumentException", Cond.fieldLink RX7 10 "CycleHouse" "graph" "LCycleHouse$Graph;", Cond.fieldLink RX7 19 "CycleHouse" "list" "LCycleHouse$SetList;", Cond.methodLink RX7 208 yX7_countGroups, Cond.instanceMethod yX7_countGroups, Cond.selects RX7 yX7_countGroups yX7_countGroups, Cond.initialized RX7, Cond.code yX7_countGroups cX7_countGroups 1 (some .int), Cond.fieldLink RX7 26 "CycleHouse" "groups" "LCycleHouse$Groups;", Cond.methodLink RX7 91 yX7_joinWhole, Cond.instanceMethod yX7_joinWhole, Cond.selects RX7 yX7_joinWhole yX7_joinWhole, Cond.code yX7_joinWhole cX7_joinWhole 1 (some .int), Cond.methodLink RX7 114 yX7_joinSet, Cond.instanceMethod yX7_joinSet, Cond.selects RX7 yX7_joinSet yX7_joinSet, Cond.code yX7_joinSet cX7_joinSet 5 (some .int), Cond.methodLink RX7 230 yX3_part, Cond.instanceMethod yX3_part, Cond.selects RX3 yX3_part yX3_part, Cond.initialized RX3, Cond.code yX3_part cX3_part 3 none, Cond.fieldLink RX3 19 "CycleHouse$Groups" "vertices" "I"]
def wsX7_look_r2 : List Cond := [Cond.fieldLink RX3 23 "CycleHouse$Groups" "count" "I", Cond.fieldLink RX3 9 "CycleHouse$Groups" "name" "[I", Cond.fieldLink RX3 15 "CycleHouse$Groups" "way" "[J", Cond.methodLink RX7 233 yX7_has, Cond.static yX7_has, Cond.code yX7_has cX7_has 3 (some .boolean), Cond.methodLink RX7 237 yX3_join, Cond.instanceMethod yX3_join, Cond.selects RX3 yX3_join yX3_join, Cond.code yX3_join cX3_join 7 (some .long), Cond.methodLink RX3 34 yX3_together, Cond.instanceMethod yX3_together, Cond.selects RX3 yX3_together yX3_together, Cond.code yX3_together cX3_together 3 (some .boolean), Cond.methodLink RX3 38 yX3_merge, Cond.instanceMethod yX3_merge, Cond.selects RX3 yX3_merge yX3_merge, Cond.code yX3_merge cX3_merge 6 none, Cond.methodLink RX7 211 yX7_countEdgesInNoCycle, Cond.instanceMethod yX7_countEdgesInNoCycle, Cond.selects RX7 yX7_countEdgesInNoCycle yX7_countEdgesInNoCycle, Cond.code yX7_countEdgesInNoCycle cX7_countEdgesInNoCycle 5 (some .int), Cond.fieldLink RX7 58 "CycleHouse" "rings" "[J", Cond.methodLink RX7 176 yX7_fillRings]
def wsX7_look_r3 : List Cond := [Cond.instanceMethod yX7_fillRings, Cond.selects RX7 yX7_fillRings yX7_fillRings, Cond.code yX7_fillRings cX7_fillRings 5 (some .int), Cond.methodLink RX7 246 yJ13_bitCount_95d88, Cond.static yJ13_bitCount_95d88, Cond.initialized RJ13, Cond.code yJ13_bitCount_95d88 cJ13_bitCount_95d88 2 (some .int), Cond.constantLong RJ13 314 (6148914691236517205), Cond.constantLong RJ13 316 (3689348814741910323), Cond.constantLong RJ13 318 (1085102592571150095), Cond.methodLink RX7 214 yX7_hasOddCycle, Cond.instanceMethod yX7_hasOddCycle, Cond.selects RX7 yX7_hasOddCycle yX7_hasOddCycle, Cond.code yX7_hasOddCycle cX7_hasOddCycle 3 (some .boolean), Cond.methodLink RX7 221 yX7_countCuttingVertices, Cond.instanceMethod yX7_countCuttingVertices, Cond.selects RX7 yX7_countCuttingVertices yX7_countCuttingVertices, Cond.code yX7_countCuttingVertices cX7_countCuttingVertices 4 (some .int), Cond.methodLink RX7 251 yX2_edgesApartFrom, Cond.instanceMethod yX2_edgesApartFrom, Cond.selects RX2 yX2_edgesApartFrom yX2_edgesApartFrom, Cond.initialized RX2, Cond.code yX2_edgesApartFrom cX2_edgesApartFrom 5 (some .long), Cond.fieldLink RX2 25 "CycleHouse$Graph" "edges" "I"]
def wsX7_look_r4 : List Cond := [Cond.fieldLink RX2 15 "CycleHouse$Graph" "from" "[I", Cond.fieldLink RX2 19 "CycleHouse$Graph" "to" "[I"]
def wsX7_look : List Cond := .code yX7_look cX7_look 2 (some .int) :: ((wsX7_look_r1 ++ (wsX7_look_r2 ++ (wsX7_look_r3 ++ wsX7_look_r4))) ++ wsX70 ++ wsX20 ++ wsX50 ++ wsX30 ++ (vx_atS RX7 66 "java/lang/IllegalArgumentException" ["java/lang/RuntimeException", "java/lang/Exception"]).filter goodWord)
def wsX8_init : List Cond := .code yX8_init cX8_init 1 none :: ([.methodLink RX8 1 objectInit, .instanceMethod objectInit, .code objectInit ⟨#[0xb1]⟩ 1 none, .fieldLink RX8 7 "CycleHouseModel" "n" "I", .arrayClass .int, .fieldLink RX8 13 "CycleHouseModel" "from" "[I", .fieldLink RX8 17 "CycleHouseModel" "to" "[I", .fieldLink RX8 20 "CycleHouseModel" "weight" "[I", .arrayClass .long, .fieldLink RX8 23 "CycleHouseModel" "list" "[J", .fieldLink RX8 27 "CycleHouseModel" "group" "[I", .fieldLink RX8 30 "CycleHouseModel" "ways" "[J", .fieldLink RX8 33 "CycleHouseModel" "closing" "[J", .fieldLink RX8 36 "CycleHouseModel" "closer" "[I", .fieldLink RX8 39 "CycleHouseModel" "elements" "[J", .fieldLink RX8 42 "CycleHouseModel" "weights" "[J", .fieldLink RX8 45 "CycleHouseModel" "rows" "[J", .fieldLink RX8 48 "CycleHouseModel" "matrix" "[J", .fieldLink RX8 51 "CycleHouseModel" "place" "[I", .arrayClass .boolean, .fieldLink RX8 54 "CycleHouseModel" "reached" "[Z"] ++ wsX80)
def wsX8_thrown : List Cond := .code yX8_thrown cX8_thrown 1 (some .int) :: ([.fieldLink RX8 58 "CycleHouseModel" "thrown" "I"] ++ wsX80)
def wsX8_throwing : List Cond := .code yX8_throwing cX8_throwing 3 (some .boolean) :: ([.fieldLink RX8 58 "CycleHouseModel" "thrown" "I"] ++ wsX80)
def wsX8_isVertex : List Cond := .code yX8_isVertex cX8_isVertex 2 (some .boolean) :: ([.fieldLink RX8 7 "CycleHouseModel" "n" "I"] ++ wsX80)
def wsX8_isSet : List Cond := .code yX8_isSet cX8_isSet 3 (some .boolean) :: ([.fieldLink RX8 61 "CycleHouseModel" "m" "I"] ++ wsX80)
def wsX8_beginGroups : List Cond := .code yX8_beginGroups cX8_beginGroups 2 none :: ([.fieldLink RX8 64 "CycleHouseModel" "closed" "I", .fieldLink RX8 27 "CycleHouseModel" "group" "[I", .fieldLink RX8 30 "CycleHouseModel" "ways" "[J"] ++ wsX80)
def wsX8_joins : List Cond := .code yX8_joins cX8_joins 8 (some .boolean) :: ([.fieldLink RX8 13 "CycleHouseModel" "from" "[I", .fieldLink RX8 17 "CycleHouseModel" "to" "[I", .fieldLink RX8 27 "CycleHouseModel" "group" "[I", .fieldLink RX8 33 "CycleHouseModel" "closing" "[J", .fieldLink RX8 64 "CycleHouseModel" "closed" "I", .fieldLink RX8 30 "CycleHouseModel" "ways" "[J", .fieldLink RX8 36 "CycleHouseModel" "closer" "[I", .fieldLink RX8 7 "CycleHouseModel" "n" "I"] ++ wsX80)
def wsX8_groups : List Cond := .code yX8_groups cX8_groups 3 (some .int) :: ([.fieldLink RX8 7 "CycleHouseModel" "n" "I", .fieldLink RX8 61 "CycleHouseModel" "m" "I", .methodLink RX8 67 yX8_beginGroups, .instanceMethod yX8_beginGroups, .selects RX8 yX8_beginGroups yX8_beginGroups, .initialized RX8, .code yX8_beginGroups cX8_beginGroups 2 none, .fieldLink RX8 64 "CycleHouseModel" "closed" "I", .fieldLink RX8 27 "CycleHouseModel" "group" "[I", .fieldLink RX8 30 "CycleHouseModel" "ways" "[J", .methodLink RX8 70 yX8_joins, .instanceMethod yX8_joins, .selects RX8 yX8_joins yX8_joins, .code yX8_joins cX8_joins 8 (some .boolean), .fieldLink RX8 13 "CycleHouseModel" "from" "[I", .fieldLink RX8 17 "CycleHouseModel" "to" "[I", .fieldLink RX8 33 "CycleHouseModel" "closing" "[J", .fieldLink RX8 36 "CycleHouseModel" "closer" "[I"] ++ wsX80)
def wsX8_dimension : List Cond := .code yX8_dimension cX8_dimension 1 (some .int) :: ([.fieldLink RX8 61 "CycleHouseModel" "m" "I", .fieldLink RX8 7 "CycleHouseModel" "n" "I", .methodLink RX8 74 yX8_groups, .instanceMethod yX8_groups, .selects RX8 yX8_groups yX8_groups, .initialized RX8, .code yX8_groups cX8_groups 3 (some .int), .methodLink RX8 67 yX8_beginGroups, .instanceMethod yX8_beginGroups, .selects RX8 yX8_beginGroups yX8_beginGroups, .code yX8_beginGroups cX8_beginGroups 2 none, .fieldLink RX8 64 "CycleHouseModel" "closed" "I", .fieldLink RX8 27 "CycleHouseModel" "group" "[I", .fieldLink RX8 30 "CycleHouseModel" "ways" "[J", .methodLink RX8 70 yX8_joins, .instanceMethod yX8_joins, .selects RX8 yX8_joins yX8_joins, .code yX8_joins cX8_joins 8 (some .boolean), .fieldLink RX8 13 "CycleHouseModel" "from" "[I", .fieldLink RX8 17 "CycleHouseModel" "to" "[I", .fieldLink RX8 33 "CycleHouseModel" "closing" "[J", .fieldLink RX8 36 "CycleHouseModel" "closer" "[I"] ++ wsX80)
def wsX8_reset : List Cond := .code yX8_reset cX8_reset 3 (some .int) :: ([.fieldLink RX8 61 "CycleHouseModel" "m" "I", .fieldLink RX8 7 "CycleHouseModel" "n" "I", .methodLink RX8 78 yX8_throwing, .instanceMethod yX8_throwing, .selects RX8 yX8_throwing yX8_throwing, .initialized RX8, .code yX8_throwing cX8_throwing 3 (some .boolean), .fieldLink RX8 58 "CycleHouseModel" "thrown" "I"] ++ wsX80)
def wsX8_edge_r1 : List Cond := [Cond.constant RX8 85 (1000000000), Cond.fieldLink RX8 61 "CycleHouseModel" "m" "I", Cond.fieldLink RX8 27 "CycleHouseModel" "group" "[I", Cond.fieldLink RX8 13 "CycleHouseModel" "from" "[I", Cond.fieldLink RX8 17 "CycleHouseModel" "to" "[I", Cond.fieldLink RX8 20 "CycleHouseModel" "weight" "[I", Cond.methodLink RX8 82 yX8_isVertex, Cond.instanceMethod yX8_isVertex, Cond.selects RX8 yX8_isVertex yX8_isVertex, Cond.initialized RX8, Cond.code yX8_isVertex cX8_isVertex 2 (some .boolean), Cond.fieldLink RX8 7 "CycleHouseModel" "n" "I", Cond.methodLink RX8 86 yX8_dimension, Cond.instanceMethod yX8_dimension, Cond.selects RX8 yX8_dimension yX8_dimension, Cond.code yX8_dimension cX8_dimension 1 (some .int), Cond.methodLink RX8 74 yX8_groups, Cond.instanceMethod yX8_groups, Cond.selects RX8 yX8_groups yX8_groups, Cond.code yX8_groups cX8_groups 3 (some .int), Cond.methodLink RX8 67 yX8_beginGroups, Cond.instanceMethod yX8_beginGroups, Cond.selects RX8 yX8_beginGroups yX8_beginGroups, Cond.code yX8_beginGroups cX8_beginGroups 2 none]
def wsX8_edge_r2 : List Cond := [Cond.fieldLink RX8 64 "CycleHouseModel" "closed" "I", Cond.fieldLink RX8 30 "CycleHouseModel" "ways" "[J", Cond.methodLink RX8 70 yX8_joins, Cond.instanceMethod yX8_joins, Cond.selects RX8 yX8_joins yX8_joins, Cond.code yX8_joins cX8_joins 8 (some .boolean), Cond.fieldLink RX8 33 "CycleHouseModel" "closing" "[J", Cond.fieldLink RX8 36 "CycleHouseModel" "closer" "[I", Cond.methodLink RX8 78 yX8_throwing, Cond.instanceMethod yX8_throwing, Cond.selects RX8 yX8_throwing yX8_throwing, Cond.code yX8_throwing cX8_throwing 3 (some .boolean), Cond.fieldLink RX8 58 "CycleHouseModel" "thrown" "I"]
def wsX8_edge : List Cond := .code yX8_edge cX8_edge 7 (some .int) :: ((wsX8_edge_r1 ++ wsX8_edge_r2) ++ wsX80)
def wsX8_drop : List Cond := .code yX8_drop cX8_drop 1 (some .int) :: ([.fieldLink RX8 61 "CycleHouseModel" "m" "I", .methodLink RX8 78 yX8_throwing, .instanceMethod yX8_throwing, .selects RX8 yX8_throwing yX8_throwing, .initialized RX8, .code yX8_throwing cX8_throwing 3 (some .boolean), .fieldLink RX8 58 "CycleHouseModel" "thrown" "I"] ++ wsX80)
def wsX8_weightOf : List Cond := .code yX8_weightOf cX8_weightOf 6 (some .long) :: ([.fieldLink RX8 61 "CycleHouseModel" "m" "I", .fieldLink RX8 20 "CycleHouseModel" "weight" "[I"] ++ wsX80)
def wsX8_beginsWith : List Cond := .code yX8_beginsWith cX8_beginsWith 5 (some .boolean) :: ([.fieldLink RX8 61 "CycleHouseModel" "m" "I", .methodLink RX8 67 yX8_beginGroups, .instanceMethod yX8_beginGroups, .selects RX8 yX8_beginGroups yX8_beginGroups, .initialized RX8, .code yX8_beginGroups cX8_beginGroups 2 none, .fieldLink RX8 64 "CycleHouseModel" "closed" "I", .fieldLink RX8 27 "CycleHouseModel" "group" "[I", .fieldLink RX8 30 "CycleHouseModel" "ways" "[J", .methodLink RX8 70 yX8_joins, .instanceMethod yX8_joins, .selects RX8 yX8_joins yX8_joins, .code yX8_joins cX8_joins 8 (some .boolean), .fieldLink RX8 13 "CycleHouseModel" "from" "[I", .fieldLink RX8 17 "CycleHouseModel" "to" "[I", .fieldLink RX8 33 "CycleHouseModel" "closing" "[J", .fieldLink RX8 36 "CycleHouseModel" "closer" "[I", .fieldLink RX8 7 "CycleHouseModel" "n" "I"] ++ wsX80)
def wsX8_hang : List Cond := .code yX8_hang cX8_hang 5 (some .boolean) :: ([.fieldLink RX8 7 "CycleHouseModel" "n" "I", .fieldLink RX8 54 "CycleHouseModel" "reached" "[Z", .fieldLink RX8 61 "CycleHouseModel" "m" "I", .fieldLink RX8 13 "CycleHouseModel" "from" "[I", .fieldLink RX8 17 "CycleHouseModel" "to" "[I"] ++ wsX80)
def wsX8_isFirst : List Cond := .code yX8_isFirst cX8_isFirst 4 (some .boolean) :: ([.fieldLink RX8 27 "CycleHouseModel" "group" "[I", .methodLink RX8 107 yX8_hang, .instanceMethod yX8_hang, .selects RX8 yX8_hang yX8_hang, .initialized RX8, .code yX8_hang cX8_hang 5 (some .boolean), .fieldLink RX8 7 "CycleHouseModel" "n" "I", .fieldLink RX8 54 "CycleHouseModel" "reached" "[Z", .fieldLink RX8 61 "CycleHouseModel" "m" "I", .fieldLink RX8 13 "CycleHouseModel" "from" "[I", .fieldLink RX8 17 "CycleHouseModel" "to" "[I"] ++ wsX80)
def wsX8_lay : List Cond := .code yX8_lay cX8_lay 3 none :: ([.fieldLink RX8 48 "CycleHouseModel" "matrix" "[J"] ++ wsX80)
def wsX8_determinant : List Cond := .code yX8_determinant cX8_determinant 9 (some .long) :: ([.fieldLink RX8 48 "CycleHouseModel" "matrix" "[J"] ++ wsX80)
def wsX8_forests_r1 : List Cond := [Cond.fieldLink RX8 7 "CycleHouseModel" "n" "I", Cond.fieldLink RX8 51 "CycleHouseModel" "place" "[I", Cond.fieldLink RX8 27 "CycleHouseModel" "group" "[I", Cond.fieldLink RX8 48 "CycleHouseModel" "matrix" "[J", Cond.fieldLink RX8 61 "CycleHouseModel" "m" "I", Cond.fieldLink RX8 13 "CycleHouseModel" "from" "[I", Cond.fieldLink RX8 17 "CycleHouseModel" "to" "[I", Cond.methodLink RX8 89 yX8_isSet, Cond.instanceMethod yX8_isSet, Cond.selects RX8 yX8_isSet yX8_isSet, Cond.initialized RX8, Cond.code yX8_isSet cX8_isSet 3 (some .boolean), Cond.methodLink RX8 78 yX8_throwing, Cond.instanceMethod yX8_throwing, Cond.selects RX8 yX8_throwing yX8_throwing, Cond.code yX8_throwing cX8_throwing 3 (some .boolean), Cond.fieldLink RX8 58 "CycleHouseModel" "thrown" "I", Cond.methodLink RX8 93 yX8_beginsWith, Cond.instanceMethod yX8_beginsWith, Cond.selects RX8 yX8_beginsWith yX8_beginsWith, Cond.code yX8_beginsWith cX8_beginsWith 5 (some .boolean), Cond.methodLink RX8 67 yX8_beginGroups, Cond.instanceMethod yX8_beginGroups, Cond.selects RX8 yX8_beginGroups yX8_beginGroups]
def wsX8_forests_r2 : List Cond := [Cond.code yX8_beginGroups cX8_beginGroups 2 none, Cond.fieldLink RX8 64 "CycleHouseModel" "closed" "I", Cond.fieldLink RX8 30 "CycleHouseModel" "ways" "[J", Cond.methodLink RX8 70 yX8_joins, Cond.instanceMethod yX8_joins, Cond.selects RX8 yX8_joins yX8_joins, Cond.code yX8_joins cX8_joins 8 (some .boolean), Cond.fieldLink RX8 33 "CycleHouseModel" "closing" "[J", Cond.fieldLink RX8 36 "CycleHouseModel" "closer" "[I", Cond.methodLink RX8 96 yX8_isFirst, Cond.instanceMethod yX8_isFirst, Cond.selects RX8 yX8_isFirst yX8_isFirst, Cond.code yX8_isFirst cX8_isFirst 4 (some .boolean), Cond.methodLink RX8 107 yX8_hang, Cond.instanceMethod yX8_hang, Cond.selects RX8 yX8_hang yX8_hang, Cond.code yX8_hang cX8_hang 5 (some .boolean), Cond.fieldLink RX8 54 "CycleHouseModel" "reached" "[Z", Cond.methodLink RX8 99 yX8_lay, Cond.instanceMethod yX8_lay, Cond.selects RX8 yX8_lay yX8_lay, Cond.code yX8_lay cX8_lay 3 none, Cond.methodLink RX8 103 yX8_determinant, Cond.instanceMethod yX8_determinant]
def wsX8_forests_r3 : List Cond := [Cond.selects RX8 yX8_determinant yX8_determinant, Cond.code yX8_determinant cX8_determinant 9 (some .long)]
def wsX8_forests : List Cond := .code yX8_forests cX8_forests 7 (some .long) :: ((wsX8_forests_r1 ++ (wsX8_forests_r2 ++ wsX8_forests_r3)) ++ wsX80)
def wsX8_lightest_r1 : List Cond := [Cond.constantLong RX8 111 (-1), Cond.fieldLink RX8 61 "CycleHouseModel" "m" "I", Cond.fieldLink RX8 27 "CycleHouseModel" "group" "[I", Cond.fieldLink RX8 13 "CycleHouseModel" "from" "[I", Cond.fieldLink RX8 17 "CycleHouseModel" "to" "[I", Cond.fieldLink RX8 20 "CycleHouseModel" "weight" "[I", Cond.methodLink RX8 89 yX8_isSet, Cond.instanceMethod yX8_isSet, Cond.selects RX8 yX8_isSet yX8_isSet, Cond.initialized RX8, Cond.code yX8_isSet cX8_isSet 3 (some .boolean), Cond.methodLink RX8 78 yX8_throwing, Cond.instanceMethod yX8_throwing, Cond.selects RX8 yX8_throwing yX8_throwing, Cond.code yX8_throwing cX8_throwing 3 (some .boolean), Cond.fieldLink RX8 58 "CycleHouseModel" "thrown" "I", Cond.methodLink RX8 93 yX8_beginsWith, Cond.instanceMethod yX8_beginsWith, Cond.selects RX8 yX8_beginsWith yX8_beginsWith, Cond.code yX8_beginsWith cX8_beginsWith 5 (some .boolean), Cond.methodLink RX8 67 yX8_beginGroups, Cond.instanceMethod yX8_beginGroups, Cond.selects RX8 yX8_beginGroups yX8_beginGroups, Cond.code yX8_beginGroups cX8_beginGroups 2 none]
def wsX8_lightest_r2 : List Cond := [Cond.fieldLink RX8 64 "CycleHouseModel" "closed" "I", Cond.fieldLink RX8 30 "CycleHouseModel" "ways" "[J", Cond.methodLink RX8 70 yX8_joins, Cond.instanceMethod yX8_joins, Cond.selects RX8 yX8_joins yX8_joins, Cond.code yX8_joins cX8_joins 8 (some .boolean), Cond.fieldLink RX8 33 "CycleHouseModel" "closing" "[J", Cond.fieldLink RX8 36 "CycleHouseModel" "closer" "[I", Cond.fieldLink RX8 7 "CycleHouseModel" "n" "I", Cond.methodLink RX8 113 yX8_weightOf, Cond.instanceMethod yX8_weightOf, Cond.selects RX8 yX8_weightOf yX8_weightOf, Cond.code yX8_weightOf cX8_weightOf 6 (some .long)]
def wsX8_lightest : List Cond := .code yX8_lightest cX8_lightest 8 (some .long) :: ((wsX8_lightest_r1 ++ wsX8_lightest_r2) ++ wsX80)
def wsX8_spread_r1 : List Cond := [Cond.fieldLink RX8 39 "CycleHouseModel" "elements" "[J", Cond.fieldLink RX8 64 "CycleHouseModel" "closed" "I", Cond.fieldLink RX8 33 "CycleHouseModel" "closing" "[J", Cond.fieldLink RX8 42 "CycleHouseModel" "weights" "[J", Cond.methodLink RX8 86 yX8_dimension, Cond.instanceMethod yX8_dimension, Cond.selects RX8 yX8_dimension yX8_dimension, Cond.initialized RX8, Cond.code yX8_dimension cX8_dimension 1 (some .int), Cond.fieldLink RX8 61 "CycleHouseModel" "m" "I", Cond.fieldLink RX8 7 "CycleHouseModel" "n" "I", Cond.methodLink RX8 74 yX8_groups, Cond.instanceMethod yX8_groups, Cond.selects RX8 yX8_groups yX8_groups, Cond.code yX8_groups cX8_groups 3 (some .int), Cond.methodLink RX8 67 yX8_beginGroups, Cond.instanceMethod yX8_beginGroups, Cond.selects RX8 yX8_beginGroups yX8_beginGroups, Cond.code yX8_beginGroups cX8_beginGroups 2 none, Cond.fieldLink RX8 27 "CycleHouseModel" "group" "[I", Cond.fieldLink RX8 30 "CycleHouseModel" "ways" "[J", Cond.methodLink RX8 70 yX8_joins, Cond.instanceMethod yX8_joins, Cond.selects RX8 yX8_joins yX8_joins]
def wsX8_spread_r2 : List Cond := [Cond.code yX8_joins cX8_joins 8 (some .boolean), Cond.fieldLink RX8 13 "CycleHouseModel" "from" "[I", Cond.fieldLink RX8 17 "CycleHouseModel" "to" "[I", Cond.fieldLink RX8 36 "CycleHouseModel" "closer" "[I", Cond.methodLink RX8 113 yX8_weightOf, Cond.instanceMethod yX8_weightOf, Cond.selects RX8 yX8_weightOf yX8_weightOf, Cond.code yX8_weightOf cX8_weightOf 6 (some .long), Cond.fieldLink RX8 20 "CycleHouseModel" "weight" "[I"]
def wsX8_spread : List Cond := .code yX8_spread cX8_spread 4 (some .int) :: ((wsX8_spread_r1 ++ wsX8_spread_r2) ++ wsX80)
def wsX8_endsAt : List Cond := .code yX8_endsAt cX8_endsAt 6 (some .int) :: ([.fieldLink RX8 61 "CycleHouseModel" "m" "I", .fieldLink RX8 13 "CycleHouseModel" "from" "[I", .fieldLink RX8 17 "CycleHouseModel" "to" "[I"] ++ wsX80)
def wsX8_isEven : List Cond := .code yX8_isEven cX8_isEven 5 (some .boolean) :: ([.fieldLink RX8 7 "CycleHouseModel" "n" "I", .methodLink RX8 117 yX8_endsAt, .instanceMethod yX8_endsAt, .selects RX8 yX8_endsAt yX8_endsAt, .initialized RX8, .code yX8_endsAt cX8_endsAt 6 (some .int), .fieldLink RX8 61 "CycleHouseModel" "m" "I", .fieldLink RX8 13 "CycleHouseModel" "from" "[I", .fieldLink RX8 17 "CycleHouseModel" "to" "[I"] ++ wsX80)
def wsX8_isRing : List Cond := .code yX8_isRing cX8_isRing 7 (some .boolean) :: ([.fieldLink RX8 7 "CycleHouseModel" "n" "I", .fieldLink RX8 61 "CycleHouseModel" "m" "I", .methodLink RX8 117 yX8_endsAt, .instanceMethod yX8_endsAt, .selects RX8 yX8_endsAt yX8_endsAt, .initialized RX8, .code yX8_endsAt cX8_endsAt 6 (some .int), .fieldLink RX8 13 "CycleHouseModel" "from" "[I", .fieldLink RX8 17 "CycleHouseModel" "to" "[I", .methodLink RX8 67 yX8_beginGroups, .instanceMethod yX8_beginGroups, .selects RX8 yX8_beginGroups yX8_beginGroups, .code yX8_beginGroups cX8_beginGroups 2 none, .fieldLink RX8 64 "CycleHouseModel" "closed" "I", .fieldLink RX8 27 "CycleHouseModel" "group" "[I", .fieldLink RX8 30 "CycleHouseModel" "ways" "[J", .methodLink RX8 70 yX8_joins, .instanceMethod yX8_joins, .selects RX8 yX8_joins yX8_joins, .code yX8_joins cX8_joins 8 (some .boolean), .fieldLink RX8 33 "CycleHouseModel" "closing" "[J", .fieldLink RX8 36 "CycleHouseModel" "closer" "[I"] ++ wsX80)
def wsX8_isCycle_r1 : List Cond := [Cond.methodLink RX8 89 yX8_isSet, Cond.instanceMethod yX8_isSet, Cond.selects RX8 yX8_isSet yX8_isSet, Cond.initialized RX8, Cond.code yX8_isSet cX8_isSet 3 (some .boolean), Cond.fieldLink RX8 61 "CycleHouseModel" "m" "I", Cond.methodLink RX8 78 yX8_throwing, Cond.instanceMethod yX8_throwing, Cond.selects RX8 yX8_throwing yX8_throwing, Cond.code yX8_throwing cX8_throwing 3 (some .boolean), Cond.fieldLink RX8 58 "CycleHouseModel" "thrown" "I", Cond.methodLink RX8 121 yX8_isEven, Cond.instanceMethod yX8_isEven, Cond.selects RX8 yX8_isEven yX8_isEven, Cond.code yX8_isEven cX8_isEven 5 (some .boolean), Cond.fieldLink RX8 7 "CycleHouseModel" "n" "I", Cond.methodLink RX8 117 yX8_endsAt, Cond.instanceMethod yX8_endsAt, Cond.selects RX8 yX8_endsAt yX8_endsAt, Cond.code yX8_endsAt cX8_endsAt 6 (some .int), Cond.fieldLink RX8 13 "CycleHouseModel" "from" "[I", Cond.fieldLink RX8 17 "CycleHouseModel" "to" "[I", Cond.methodLink RX8 124 yX8_isRing, Cond.instanceMethod yX8_isRing]
def wsX8_isCycle_r2 : List Cond := [Cond.selects RX8 yX8_isRing yX8_isRing, Cond.code yX8_isRing cX8_isRing 7 (some .boolean), Cond.methodLink RX8 67 yX8_beginGroups, Cond.instanceMethod yX8_beginGroups, Cond.selects RX8 yX8_beginGroups yX8_beginGroups, Cond.code yX8_beginGroups cX8_beginGroups 2 none, Cond.fieldLink RX8 64 "CycleHouseModel" "closed" "I", Cond.fieldLink RX8 27 "CycleHouseModel" "group" "[I", Cond.fieldLink RX8 30 "CycleHouseModel" "ways" "[J", Cond.methodLink RX8 70 yX8_joins, Cond.instanceMethod yX8_joins, Cond.selects RX8 yX8_joins yX8_joins, Cond.code yX8_joins cX8_joins 8 (some .boolean), Cond.fieldLink RX8 33 "CycleHouseModel" "closing" "[J", Cond.fieldLink RX8 36 "CycleHouseModel" "closer" "[I"]
def wsX8_isCycle : List Cond := .code yX8_isCycle cX8_isCycle 3 (some .int) :: ((wsX8_isCycle_r1 ++ wsX8_isCycle_r2) ++ wsX80)
def wsX8_through_r1 : List Cond := [Cond.fieldLink RX8 61 "CycleHouseModel" "m" "I", Cond.constantLong RX8 111 (-1), Cond.fieldLink RX8 39 "CycleHouseModel" "elements" "[J", Cond.fieldLink RX8 42 "CycleHouseModel" "weights" "[J", Cond.methodLink RX8 78 yX8_throwing, Cond.instanceMethod yX8_throwing, Cond.selects RX8 yX8_throwing yX8_throwing, Cond.initialized RX8, Cond.code yX8_throwing cX8_throwing 3 (some .boolean), Cond.fieldLink RX8 58 "CycleHouseModel" "thrown" "I", Cond.methodLink RX8 127 yX8_spread, Cond.instanceMethod yX8_spread, Cond.selects RX8 yX8_spread yX8_spread, Cond.code yX8_spread cX8_spread 4 (some .int), Cond.fieldLink RX8 64 "CycleHouseModel" "closed" "I", Cond.fieldLink RX8 33 "CycleHouseModel" "closing" "[J", Cond.methodLink RX8 86 yX8_dimension, Cond.instanceMethod yX8_dimension, Cond.selects RX8 yX8_dimension yX8_dimension, Cond.code yX8_dimension cX8_dimension 1 (some .int), Cond.fieldLink RX8 7 "CycleHouseModel" "n" "I", Cond.methodLink RX8 74 yX8_groups, Cond.instanceMethod yX8_groups, Cond.selects RX8 yX8_groups yX8_groups]
def wsX8_through_r2 : List Cond := [Cond.code yX8_groups cX8_groups 3 (some .int), Cond.methodLink RX8 67 yX8_beginGroups, Cond.instanceMethod yX8_beginGroups, Cond.selects RX8 yX8_beginGroups yX8_beginGroups, Cond.code yX8_beginGroups cX8_beginGroups 2 none, Cond.fieldLink RX8 27 "CycleHouseModel" "group" "[I", Cond.fieldLink RX8 30 "CycleHouseModel" "ways" "[J", Cond.methodLink RX8 70 yX8_joins, Cond.instanceMethod yX8_joins, Cond.selects RX8 yX8_joins yX8_joins, Cond.code yX8_joins cX8_joins 8 (some .boolean), Cond.fieldLink RX8 13 "CycleHouseModel" "from" "[I", Cond.fieldLink RX8 17 "CycleHouseModel" "to" "[I", Cond.fieldLink RX8 36 "CycleHouseModel" "closer" "[I", Cond.methodLink RX8 113 yX8_weightOf, Cond.instanceMethod yX8_weightOf, Cond.selects RX8 yX8_weightOf yX8_weightOf, Cond.code yX8_weightOf cX8_weightOf 6 (some .long), Cond.fieldLink RX8 20 "CycleHouseModel" "weight" "[I"]
def wsX8_through : List Cond := .code yX8_through cX8_through 6 (some .long) :: ((wsX8_through_r1 ++ wsX8_through_r2) ++ wsX80)
def wsX8_rest : List Cond := .code yX8_rest cX8_rest 6 (some .long) :: ([.fieldLink RX8 130 "CycleHouseModel" "rowed" "I", .fieldLink RX8 45 "CycleHouseModel" "rows" "[J"] ++ wsX80)
def wsX8_take : List Cond := .code yX8_take cX8_take 6 (some .boolean) :: ([.fieldLink RX8 130 "CycleHouseModel" "rowed" "I", .fieldLink RX8 45 "CycleHouseModel" "rows" "[J", .methodLink RX8 133 yX8_rest, .instanceMethod yX8_rest, .selects RX8 yX8_rest yX8_rest, .initialized RX8, .code yX8_rest cX8_rest 6 (some .long)] ++ wsX80)
def wsX8_basis_r1 : List Cond := [Cond.fieldLink RX8 130 "CycleHouseModel" "rowed" "I", Cond.fieldLink RX8 42 "CycleHouseModel" "weights" "[J", Cond.methodLink RX8 86 yX8_dimension, Cond.instanceMethod yX8_dimension, Cond.selects RX8 yX8_dimension yX8_dimension, Cond.initialized RX8, Cond.code yX8_dimension cX8_dimension 1 (some .int), Cond.fieldLink RX8 61 "CycleHouseModel" "m" "I", Cond.fieldLink RX8 7 "CycleHouseModel" "n" "I", Cond.methodLink RX8 74 yX8_groups, Cond.instanceMethod yX8_groups, Cond.selects RX8 yX8_groups yX8_groups, Cond.code yX8_groups cX8_groups 3 (some .int), Cond.methodLink RX8 67 yX8_beginGroups, Cond.instanceMethod yX8_beginGroups, Cond.selects RX8 yX8_beginGroups yX8_beginGroups, Cond.code yX8_beginGroups cX8_beginGroups 2 none, Cond.fieldLink RX8 64 "CycleHouseModel" "closed" "I", Cond.fieldLink RX8 27 "CycleHouseModel" "group" "[I", Cond.fieldLink RX8 30 "CycleHouseModel" "ways" "[J", Cond.methodLink RX8 70 yX8_joins, Cond.instanceMethod yX8_joins, Cond.selects RX8 yX8_joins yX8_joins, Cond.code yX8_joins cX8_joins 8 (some .boolean)]
def wsX8_basis_r2 : List Cond := [Cond.fieldLink RX8 13 "CycleHouseModel" "from" "[I", Cond.fieldLink RX8 17 "CycleHouseModel" "to" "[I", Cond.fieldLink RX8 33 "CycleHouseModel" "closing" "[J", Cond.fieldLink RX8 36 "CycleHouseModel" "closer" "[I", Cond.methodLink RX8 78 yX8_throwing, Cond.instanceMethod yX8_throwing, Cond.selects RX8 yX8_throwing yX8_throwing, Cond.code yX8_throwing cX8_throwing 3 (some .boolean), Cond.fieldLink RX8 58 "CycleHouseModel" "thrown" "I", Cond.methodLink RX8 127 yX8_spread, Cond.instanceMethod yX8_spread, Cond.selects RX8 yX8_spread yX8_spread, Cond.code yX8_spread cX8_spread 4 (some .int), Cond.fieldLink RX8 39 "CycleHouseModel" "elements" "[J", Cond.methodLink RX8 113 yX8_weightOf, Cond.instanceMethod yX8_weightOf, Cond.selects RX8 yX8_weightOf yX8_weightOf, Cond.code yX8_weightOf cX8_weightOf 6 (some .long), Cond.fieldLink RX8 20 "CycleHouseModel" "weight" "[I", Cond.methodLink RX8 133 yX8_rest, Cond.instanceMethod yX8_rest, Cond.selects RX8 yX8_rest yX8_rest, Cond.code yX8_rest cX8_rest 6 (some .long), Cond.fieldLink RX8 45 "CycleHouseModel" "rows" "[J"]
def wsX8_basis_r3 : List Cond := [Cond.methodLink RX8 136 yX8_take, Cond.instanceMethod yX8_take, Cond.selects RX8 yX8_take yX8_take, Cond.code yX8_take cX8_take 6 (some .boolean)]
def wsX8_basis : List Cond := .code yX8_basis cX8_basis 9 (some .long) :: ((wsX8_basis_r1 ++ (wsX8_basis_r2 ++ wsX8_basis_r3)) ++ wsX80)
def wsX8_numberOf : List Cond := .code yX8_numberOf cX8_numberOf 5 (some .int) :: ([.fieldLink RX8 64 "CycleHouseModel" "closed" "I", .fieldLink RX8 36 "CycleHouseModel" "closer" "[I"] ++ wsX80)
def wsX8_belongs_r1 : List Cond := [Cond.fieldLink RX8 130 "CycleHouseModel" "rowed" "I", Cond.fieldLink RX8 42 "CycleHouseModel" "weights" "[J", Cond.methodLink RX8 89 yX8_isSet, Cond.instanceMethod yX8_isSet, Cond.selects RX8 yX8_isSet yX8_isSet, Cond.initialized RX8, Cond.code yX8_isSet cX8_isSet 3 (some .boolean), Cond.fieldLink RX8 61 "CycleHouseModel" "m" "I", Cond.methodLink RX8 78 yX8_throwing, Cond.instanceMethod yX8_throwing, Cond.selects RX8 yX8_throwing yX8_throwing, Cond.code yX8_throwing cX8_throwing 3 (some .boolean), Cond.fieldLink RX8 58 "CycleHouseModel" "thrown" "I", Cond.methodLink RX8 121 yX8_isEven, Cond.instanceMethod yX8_isEven, Cond.selects RX8 yX8_isEven yX8_isEven, Cond.code yX8_isEven cX8_isEven 5 (some .boolean), Cond.fieldLink RX8 7 "CycleHouseModel" "n" "I", Cond.methodLink RX8 117 yX8_endsAt, Cond.instanceMethod yX8_endsAt, Cond.selects RX8 yX8_endsAt yX8_endsAt, Cond.code yX8_endsAt cX8_endsAt 6 (some .int), Cond.fieldLink RX8 13 "CycleHouseModel" "from" "[I", Cond.fieldLink RX8 17 "CycleHouseModel" "to" "[I"]
def wsX8_belongs_r2 : List Cond := [Cond.methodLink RX8 127 yX8_spread, Cond.instanceMethod yX8_spread, Cond.selects RX8 yX8_spread yX8_spread, Cond.code yX8_spread cX8_spread 4 (some .int), Cond.fieldLink RX8 39 "CycleHouseModel" "elements" "[J", Cond.fieldLink RX8 64 "CycleHouseModel" "closed" "I", Cond.fieldLink RX8 33 "CycleHouseModel" "closing" "[J", Cond.methodLink RX8 86 yX8_dimension, Cond.instanceMethod yX8_dimension, Cond.selects RX8 yX8_dimension yX8_dimension, Cond.code yX8_dimension cX8_dimension 1 (some .int), Cond.methodLink RX8 74 yX8_groups, Cond.instanceMethod yX8_groups, Cond.selects RX8 yX8_groups yX8_groups, Cond.code yX8_groups cX8_groups 3 (some .int), Cond.methodLink RX8 67 yX8_beginGroups, Cond.instanceMethod yX8_beginGroups, Cond.selects RX8 yX8_beginGroups yX8_beginGroups, Cond.code yX8_beginGroups cX8_beginGroups 2 none, Cond.fieldLink RX8 27 "CycleHouseModel" "group" "[I", Cond.fieldLink RX8 30 "CycleHouseModel" "ways" "[J", Cond.methodLink RX8 70 yX8_joins, Cond.instanceMethod yX8_joins, Cond.selects RX8 yX8_joins yX8_joins]
def wsX8_belongs_r3 : List Cond := [Cond.code yX8_joins cX8_joins 8 (some .boolean), Cond.fieldLink RX8 36 "CycleHouseModel" "closer" "[I", Cond.methodLink RX8 113 yX8_weightOf, Cond.instanceMethod yX8_weightOf, Cond.selects RX8 yX8_weightOf yX8_weightOf, Cond.code yX8_weightOf cX8_weightOf 6 (some .long), Cond.fieldLink RX8 20 "CycleHouseModel" "weight" "[I", Cond.methodLink RX8 139 yX8_numberOf, Cond.instanceMethod yX8_numberOf, Cond.selects RX8 yX8_numberOf yX8_numberOf, Cond.code yX8_numberOf cX8_numberOf 5 (some .int), Cond.methodLink RX8 136 yX8_take, Cond.instanceMethod yX8_take, Cond.selects RX8 yX8_take yX8_take, Cond.code yX8_take cX8_take 6 (some .boolean), Cond.fieldLink RX8 45 "CycleHouseModel" "rows" "[J", Cond.methodLink RX8 133 yX8_rest, Cond.instanceMethod yX8_rest, Cond.selects RX8 yX8_rest yX8_rest, Cond.code yX8_rest cX8_rest 6 (some .long)]
def wsX8_belongs : List Cond := .code yX8_belongs cX8_belongs 7 (some .boolean) :: ((wsX8_belongs_r1 ++ (wsX8_belongs_r2 ++ wsX8_belongs_r3)) ++ wsX80)
def wsX8_cycles_r1 : List Cond := [Cond.fieldLink RX8 58 "CycleHouseModel" "thrown" "I", Cond.fieldLink RX8 39 "CycleHouseModel" "elements" "[J", Cond.methodLink RX8 127 yX8_spread, Cond.instanceMethod yX8_spread, Cond.selects RX8 yX8_spread yX8_spread, Cond.initialized RX8, Cond.code yX8_spread cX8_spread 4 (some .int), Cond.fieldLink RX8 64 "CycleHouseModel" "closed" "I", Cond.fieldLink RX8 33 "CycleHouseModel" "closing" "[J", Cond.fieldLink RX8 42 "CycleHouseModel" "weights" "[J", Cond.methodLink RX8 86 yX8_dimension, Cond.instanceMethod yX8_dimension, Cond.selects RX8 yX8_dimension yX8_dimension, Cond.code yX8_dimension cX8_dimension 1 (some .int), Cond.fieldLink RX8 61 "CycleHouseModel" "m" "I", Cond.fieldLink RX8 7 "CycleHouseModel" "n" "I", Cond.methodLink RX8 74 yX8_groups, Cond.instanceMethod yX8_groups, Cond.selects RX8 yX8_groups yX8_groups, Cond.code yX8_groups cX8_groups 3 (some .int), Cond.methodLink RX8 67 yX8_beginGroups, Cond.instanceMethod yX8_beginGroups, Cond.selects RX8 yX8_beginGroups yX8_beginGroups, Cond.code yX8_beginGroups cX8_beginGroups 2 none]
def wsX8_cycles_r2 : List Cond := [Cond.fieldLink RX8 27 "CycleHouseModel" "group" "[I", Cond.fieldLink RX8 30 "CycleHouseModel" "ways" "[J", Cond.methodLink RX8 70 yX8_joins, Cond.instanceMethod yX8_joins, Cond.selects RX8 yX8_joins yX8_joins, Cond.code yX8_joins cX8_joins 8 (some .boolean), Cond.fieldLink RX8 13 "CycleHouseModel" "from" "[I", Cond.fieldLink RX8 17 "CycleHouseModel" "to" "[I", Cond.fieldLink RX8 36 "CycleHouseModel" "closer" "[I", Cond.methodLink RX8 113 yX8_weightOf, Cond.instanceMethod yX8_weightOf, Cond.selects RX8 yX8_weightOf yX8_weightOf, Cond.code yX8_weightOf cX8_weightOf 6 (some .long), Cond.fieldLink RX8 20 "CycleHouseModel" "weight" "[I", Cond.methodLink RX8 124 yX8_isRing, Cond.instanceMethod yX8_isRing, Cond.selects RX8 yX8_isRing yX8_isRing, Cond.code yX8_isRing cX8_isRing 7 (some .boolean), Cond.methodLink RX8 117 yX8_endsAt, Cond.instanceMethod yX8_endsAt, Cond.selects RX8 yX8_endsAt yX8_endsAt, Cond.code yX8_endsAt cX8_endsAt 6 (some .int)]
def wsX8_cycles : List Cond := .code yX8_cycles cX8_cycles 4 (some .int) :: ((wsX8_cycles_r1 ++ wsX8_cycles_r2) ++ wsX80)
def wsX8_light_r1 : List Cond := [Cond.fieldLink RX8 58 "CycleHouseModel" "thrown" "I", Cond.fieldLink RX8 42 "CycleHouseModel" "weights" "[J", Cond.methodLink RX8 127 yX8_spread, Cond.instanceMethod yX8_spread, Cond.selects RX8 yX8_spread yX8_spread, Cond.initialized RX8, Cond.code yX8_spread cX8_spread 4 (some .int), Cond.fieldLink RX8 39 "CycleHouseModel" "elements" "[J", Cond.fieldLink RX8 64 "CycleHouseModel" "closed" "I", Cond.fieldLink RX8 33 "CycleHouseModel" "closing" "[J", Cond.methodLink RX8 86 yX8_dimension, Cond.instanceMethod yX8_dimension, Cond.selects RX8 yX8_dimension yX8_dimension, Cond.code yX8_dimension cX8_dimension 1 (some .int), Cond.fieldLink RX8 61 "CycleHouseModel" "m" "I", Cond.fieldLink RX8 7 "CycleHouseModel" "n" "I", Cond.methodLink RX8 74 yX8_groups, Cond.instanceMethod yX8_groups, Cond.selects RX8 yX8_groups yX8_groups, Cond.code yX8_groups cX8_groups 3 (some .int), Cond.methodLink RX8 67 yX8_beginGroups, Cond.instanceMethod yX8_beginGroups, Cond.selects RX8 yX8_beginGroups yX8_beginGroups, Cond.code yX8_beginGroups cX8_beginGroups 2 none]
def wsX8_light_r2 : List Cond := [Cond.fieldLink RX8 27 "CycleHouseModel" "group" "[I", Cond.fieldLink RX8 30 "CycleHouseModel" "ways" "[J", Cond.methodLink RX8 70 yX8_joins, Cond.instanceMethod yX8_joins, Cond.selects RX8 yX8_joins yX8_joins, Cond.code yX8_joins cX8_joins 8 (some .boolean), Cond.fieldLink RX8 13 "CycleHouseModel" "from" "[I", Cond.fieldLink RX8 17 "CycleHouseModel" "to" "[I", Cond.fieldLink RX8 36 "CycleHouseModel" "closer" "[I", Cond.methodLink RX8 113 yX8_weightOf, Cond.instanceMethod yX8_weightOf, Cond.selects RX8 yX8_weightOf yX8_weightOf, Cond.code yX8_weightOf cX8_weightOf 6 (some .long), Cond.fieldLink RX8 20 "CycleHouseModel" "weight" "[I"]
def wsX8_light : List Cond := .code yX8_light cX8_light 6 (some .int) :: ((wsX8_light_r1 ++ wsX8_light_r2) ++ wsX80)
def wsX8_add : List Cond := .code yX8_add cX8_add 3 (some .int) :: ([.fieldLink RX8 143 "CycleHouseModel" "listed" "I", .fieldLink RX8 23 "CycleHouseModel" "list" "[J", .methodLink RX8 78 yX8_throwing, .instanceMethod yX8_throwing, .selects RX8 yX8_throwing yX8_throwing, .initialized RX8, .code yX8_throwing cX8_throwing 3 (some .boolean), .fieldLink RX8 58 "CycleHouseModel" "thrown" "I"] ++ wsX80)
def wsX8_clear : List Cond := .code yX8_clear cX8_clear 2 (some .int) :: ([.fieldLink RX8 58 "CycleHouseModel" "thrown" "I", .fieldLink RX8 143 "CycleHouseModel" "listed" "I"] ++ wsX80)
def wsX8_takeList : List Cond := .code yX8_takeList cX8_takeList 3 none :: ([.fieldLink RX8 130 "CycleHouseModel" "rowed" "I", .fieldLink RX8 143 "CycleHouseModel" "listed" "I", .fieldLink RX8 23 "CycleHouseModel" "list" "[J", .methodLink RX8 136 yX8_take, .instanceMethod yX8_take, .selects RX8 yX8_take yX8_take, .initialized RX8, .code yX8_take cX8_take 6 (some .boolean), .fieldLink RX8 45 "CycleHouseModel" "rows" "[J", .methodLink RX8 133 yX8_rest, .instanceMethod yX8_rest, .selects RX8 yX8_rest yX8_rest, .code yX8_rest cX8_rest 6 (some .long)] ++ wsX80)
def wsX8_spans : List Cond := .code yX8_spans cX8_spans 3 (some .boolean) :: ([.methodLink RX8 78 yX8_throwing, .instanceMethod yX8_throwing, .selects RX8 yX8_throwing yX8_throwing, .initialized RX8, .code yX8_throwing cX8_throwing 3 (some .boolean), .fieldLink RX8 58 "CycleHouseModel" "thrown" "I", .methodLink RX8 146 yX8_takeList, .instanceMethod yX8_takeList, .selects RX8 yX8_takeList yX8_takeList, .code yX8_takeList cX8_takeList 3 none, .fieldLink RX8 130 "CycleHouseModel" "rowed" "I", .fieldLink RX8 143 "CycleHouseModel" "listed" "I", .fieldLink RX8 23 "CycleHouseModel" "list" "[J", .methodLink RX8 136 yX8_take, .instanceMethod yX8_take, .selects RX8 yX8_take yX8_take, .code yX8_take cX8_take 6 (some .boolean), .fieldLink RX8 45 "CycleHouseModel" "rows" "[J", .methodLink RX8 133 yX8_rest, .instanceMethod yX8_rest, .selects RX8 yX8_rest yX8_rest, .code yX8_rest cX8_rest 6 (some .long)] ++ wsX80)
def wsX8_alone : List Cond := .code yX8_alone cX8_alone 6 (some .int) :: ([.fieldLink RX8 61 "CycleHouseModel" "m" "I", .fieldLink RX8 7 "CycleHouseModel" "n" "I", .methodLink RX8 74 yX8_groups, .instanceMethod yX8_groups, .selects RX8 yX8_groups yX8_groups, .initialized RX8, .code yX8_groups cX8_groups 3 (some .int), .methodLink RX8 67 yX8_beginGroups, .instanceMethod yX8_beginGroups, .selects RX8 yX8_beginGroups yX8_beginGroups, .code yX8_beginGroups cX8_beginGroups 2 none, .fieldLink RX8 64 "CycleHouseModel" "closed" "I", .fieldLink RX8 27 "CycleHouseModel" "group" "[I", .fieldLink RX8 30 "CycleHouseModel" "ways" "[J", .methodLink RX8 70 yX8_joins, .instanceMethod yX8_joins, .selects RX8 yX8_joins yX8_joins, .code yX8_joins cX8_joins 8 (some .boolean), .fieldLink RX8 13 "CycleHouseModel" "from" "[I", .fieldLink RX8 17 "CycleHouseModel" "to" "[I", .fieldLink RX8 33 "CycleHouseModel" "closing" "[J", .fieldLink RX8 36 "CycleHouseModel" "closer" "[I"] ++ wsX80)
def wsX8_areEven : List Cond := .code yX8_areEven cX8_areEven 6 (some .boolean) :: ([.fieldLink RX8 64 "CycleHouseModel" "closed" "I", .fieldLink RX8 61 "CycleHouseModel" "m" "I", .fieldLink RX8 33 "CycleHouseModel" "closing" "[J", .methodLink RX8 74 yX8_groups, .instanceMethod yX8_groups, .selects RX8 yX8_groups yX8_groups, .initialized RX8, .code yX8_groups cX8_groups 3 (some .int), .fieldLink RX8 7 "CycleHouseModel" "n" "I", .methodLink RX8 67 yX8_beginGroups, .instanceMethod yX8_beginGroups, .selects RX8 yX8_beginGroups yX8_beginGroups, .code yX8_beginGroups cX8_beginGroups 2 none, .fieldLink RX8 27 "CycleHouseModel" "group" "[I", .fieldLink RX8 30 "CycleHouseModel" "ways" "[J", .methodLink RX8 70 yX8_joins, .instanceMethod yX8_joins, .selects RX8 yX8_joins yX8_joins, .code yX8_joins cX8_joins 8 (some .boolean), .fieldLink RX8 13 "CycleHouseModel" "from" "[I", .fieldLink RX8 17 "CycleHouseModel" "to" "[I", .fieldLink RX8 36 "CycleHouseModel" "closer" "[I"] ++ wsX80)
def wsX8_parting : List Cond := .code yX8_parting cX8_parting 6 (some .int) :: ([.fieldLink RX8 7 "CycleHouseModel" "n" "I", .fieldLink RX8 61 "CycleHouseModel" "m" "I", .fieldLink RX8 13 "CycleHouseModel" "from" "[I", .fieldLink RX8 17 "CycleHouseModel" "to" "[I", .methodLink RX8 74 yX8_groups, .instanceMethod yX8_groups, .selects RX8 yX8_groups yX8_groups, .initialized RX8, .code yX8_groups cX8_groups 3 (some .int), .methodLink RX8 67 yX8_beginGroups, .instanceMethod yX8_beginGroups, .selects RX8 yX8_beginGroups yX8_beginGroups, .code yX8_beginGroups cX8_beginGroups 2 none, .fieldLink RX8 64 "CycleHouseModel" "closed" "I", .fieldLink RX8 27 "CycleHouseModel" "group" "[I", .fieldLink RX8 30 "CycleHouseModel" "ways" "[J", .methodLink RX8 70 yX8_joins, .instanceMethod yX8_joins, .selects RX8 yX8_joins yX8_joins, .code yX8_joins cX8_joins 8 (some .boolean), .fieldLink RX8 33 "CycleHouseModel" "closing" "[J", .fieldLink RX8 36 "CycleHouseModel" "closer" "[I"] ++ wsX80)
def wsX8_rank : List Cond := .code yX8_rank cX8_rank 1 (some .int) :: ([.fieldLink RX8 130 "CycleHouseModel" "rowed" "I", .methodLink RX8 146 yX8_takeList, .instanceMethod yX8_takeList, .selects RX8 yX8_takeList yX8_takeList, .initialized RX8, .code yX8_takeList cX8_takeList 3 none, .fieldLink RX8 143 "CycleHouseModel" "listed" "I", .fieldLink RX8 23 "CycleHouseModel" "list" "[J", .methodLink RX8 136 yX8_take, .instanceMethod yX8_take, .selects RX8 yX8_take yX8_take, .code yX8_take cX8_take 6 (some .boolean), .fieldLink RX8 45 "CycleHouseModel" "rows" "[J", .methodLink RX8 133 yX8_rest, .instanceMethod yX8_rest, .selects RX8 yX8_rest yX8_rest, .code yX8_rest cX8_rest 6 (some .long)] ++ wsX80)
def wsX8_look_r1 : List Cond := [Cond.fieldLink RX8 7 "CycleHouseModel" "n" "I", Cond.fieldLink RX8 61 "CycleHouseModel" "m" "I", Cond.fieldLink RX8 143 "CycleHouseModel" "listed" "I", Cond.methodLink RX8 78 yX8_throwing, Cond.instanceMethod yX8_throwing, Cond.selects RX8 yX8_throwing yX8_throwing, Cond.initialized RX8, Cond.code yX8_throwing cX8_throwing 3 (some .boolean), Cond.fieldLink RX8 58 "CycleHouseModel" "thrown" "I", Cond.methodLink RX8 74 yX8_groups, Cond.instanceMethod yX8_groups, Cond.selects RX8 yX8_groups yX8_groups, Cond.code yX8_groups cX8_groups 3 (some .int), Cond.methodLink RX8 67 yX8_beginGroups, Cond.instanceMethod yX8_beginGroups, Cond.selects RX8 yX8_beginGroups yX8_beginGroups, Cond.code yX8_beginGroups cX8_beginGroups 2 none, Cond.fieldLink RX8 64 "CycleHouseModel" "closed" "I", Cond.fieldLink RX8 27 "CycleHouseModel" "group" "[I", Cond.fieldLink RX8 30 "CycleHouseModel" "ways" "[J", Cond.methodLink RX8 70 yX8_joins, Cond.instanceMethod yX8_joins, Cond.selects RX8 yX8_joins yX8_joins, Cond.code yX8_joins cX8_joins 8 (some .boolean)]
def wsX8_look_r2 : List Cond := [Cond.fieldLink RX8 13 "CycleHouseModel" "from" "[I", Cond.fieldLink RX8 17 "CycleHouseModel" "to" "[I", Cond.fieldLink RX8 33 "CycleHouseModel" "closing" "[J", Cond.fieldLink RX8 36 "CycleHouseModel" "closer" "[I", Cond.methodLink RX8 86 yX8_dimension, Cond.instanceMethod yX8_dimension, Cond.selects RX8 yX8_dimension yX8_dimension, Cond.code yX8_dimension cX8_dimension 1 (some .int), Cond.methodLink RX8 149 yX8_alone, Cond.instanceMethod yX8_alone, Cond.selects RX8 yX8_alone yX8_alone, Cond.code yX8_alone cX8_alone 6 (some .int), Cond.methodLink RX8 152 yX8_areEven, Cond.instanceMethod yX8_areEven, Cond.selects RX8 yX8_areEven yX8_areEven, Cond.code yX8_areEven cX8_areEven 6 (some .boolean), Cond.methodLink RX8 156 yX8_rank, Cond.instanceMethod yX8_rank, Cond.selects RX8 yX8_rank yX8_rank, Cond.code yX8_rank cX8_rank 1 (some .int), Cond.fieldLink RX8 130 "CycleHouseModel" "rowed" "I", Cond.methodLink RX8 146 yX8_takeList, Cond.instanceMethod yX8_takeList, Cond.selects RX8 yX8_takeList yX8_takeList]
def wsX8_look_r3 : List Cond := [Cond.code yX8_takeList cX8_takeList 3 none, Cond.fieldLink RX8 23 "CycleHouseModel" "list" "[J", Cond.methodLink RX8 136 yX8_take, Cond.instanceMethod yX8_take, Cond.selects RX8 yX8_take yX8_take, Cond.code yX8_take cX8_take 6 (some .boolean), Cond.fieldLink RX8 45 "CycleHouseModel" "rows" "[J", Cond.methodLink RX8 133 yX8_rest, Cond.instanceMethod yX8_rest, Cond.selects RX8 yX8_rest yX8_rest, Cond.code yX8_rest cX8_rest 6 (some .long), Cond.methodLink RX8 159 yX8_parting, Cond.instanceMethod yX8_parting, Cond.selects RX8 yX8_parting yX8_parting, Cond.code yX8_parting cX8_parting 6 (some .int)]
def wsX8_look : List Cond := .code yX8_look cX8_look 2 (some .int) :: ((wsX8_look_r1 ++ (wsX8_look_r2 ++ wsX8_look_r3)) ++ wsX80)
def wsL_reset : List Cond := .codeWith yL_reset cL_reset 4 (some .int) [(0, 9, 12, 13)] :: ([.classLink RL 13 "java/lang/IllegalArgumentException", .methodLink RL 7 yX7_reset, .instanceMethod yX7_reset, .selects RX7 yX7_reset yX7_reset, .initialized RX7, .code yX7_reset cX7_reset 3 (some .int), .classLink RX7 62 "java/lang/IllegalArgumentException", .initialized "java/lang/IllegalArgumentException", .fieldLink RX7 10 "CycleHouse" "graph" "LCycleHouse$Graph;", .methodLink RX7 73 yX2_begin, .instanceMethod yX2_begin, .selects RX2 yX2_begin yX2_begin, .initialized RX2, .code yX2_begin cX2_begin 2 none, .fieldLink RX2 9 "CycleHouse$Graph" "vertices" "I", .fieldLink RX2 25 "CycleHouse$Graph" "edges" "I"] ++ wsX70 ++ wsX20 ++ (vx_atS RX7 66 "java/lang/IllegalArgumentException" ["java/lang/RuntimeException", "java/lang/Exception"]).filter goodWord)
def wsL_edge_r1 : List Cond := [Cond.classLink RL 13 "java/lang/IllegalArgumentException", Cond.classLink RL 19 "java/lang/IllegalStateException", Cond.methodLink RL 15 yX7_edge, Cond.instanceMethod yX7_edge, Cond.selects RX7 yX7_edge yX7_edge, Cond.initialized RX7, Cond.code yX7_edge cX7_edge 4 (some .int), Cond.classLink RX7 62 "java/lang/IllegalArgumentException", Cond.initialized "java/lang/IllegalArgumentException", Cond.classLink RX7 86 "java/lang/IllegalStateException", Cond.initialized "java/lang/IllegalStateException", Cond.fieldLink RX7 10 "CycleHouse" "graph" "LCycleHouse$Graph;", Cond.constant RX7 83 (1000000000), Cond.fieldLink RX7 26 "CycleHouse" "groups" "LCycleHouse$Groups;", Cond.methodLink RX7 77 yX2_hasVertex, Cond.instanceMethod yX2_hasVertex, Cond.selects RX2 yX2_hasVertex yX2_hasVertex, Cond.initialized RX2, Cond.code yX2_hasVertex cX2_hasVertex 2 (some .boolean), Cond.fieldLink RX2 9 "CycleHouse$Graph" "vertices" "I", Cond.methodLink RX7 91 yX7_joinWhole, Cond.instanceMethod yX7_joinWhole, Cond.selects RX7 yX7_joinWhole yX7_joinWhole, Cond.code yX7_joinWhole cX7_joinWhole 1 (some .int)]
def wsL_edge_r2 : List Cond := [Cond.methodLink RX7 114 yX7_joinSet, Cond.instanceMethod yX7_joinSet, Cond.selects RX7 yX7_joinSet yX7_joinSet, Cond.code yX7_joinSet cX7_joinSet 5 (some .int), Cond.methodLink RX7 230 yX3_part, Cond.instanceMethod yX3_part, Cond.selects RX3 yX3_part yX3_part, Cond.initialized RX3, Cond.code yX3_part cX3_part 3 none, Cond.fieldLink RX3 19 "CycleHouse$Groups" "vertices" "I", Cond.fieldLink RX3 23 "CycleHouse$Groups" "count" "I", Cond.fieldLink RX3 9 "CycleHouse$Groups" "name" "[I", Cond.fieldLink RX3 15 "CycleHouse$Groups" "way" "[J", Cond.methodLink RX7 233 yX7_has, Cond.static yX7_has, Cond.code yX7_has cX7_has 3 (some .boolean), Cond.methodLink RX7 237 yX3_join, Cond.instanceMethod yX3_join, Cond.selects RX3 yX3_join yX3_join, Cond.code yX3_join cX3_join 7 (some .long), Cond.methodLink RX3 34 yX3_together, Cond.instanceMethod yX3_together, Cond.selects RX3 yX3_together yX3_together, Cond.code yX3_together cX3_together 3 (some .boolean)]
def wsL_edge_r3 : List Cond := [Cond.methodLink RX3 38 yX3_merge, Cond.instanceMethod yX3_merge, Cond.selects RX3 yX3_merge yX3_merge, Cond.code yX3_merge cX3_merge 6 none, Cond.methodLink RX7 95 yX3_together, Cond.methodLink RX7 101 yX2_append, Cond.instanceMethod yX2_append, Cond.selects RX2 yX2_append yX2_append, Cond.code yX2_append cX2_append 5 (some .int), Cond.fieldLink RX2 25 "CycleHouse$Graph" "edges" "I", Cond.fieldLink RX2 15 "CycleHouse$Graph" "from" "[I", Cond.fieldLink RX2 19 "CycleHouse$Graph" "to" "[I", Cond.fieldLink RX2 22 "CycleHouse$Graph" "weight" "[I"]
def wsL_edge : List Cond := .codeWith yL_edge cL_edge 6 (some .int) [(0, 12, 15, 13), (0, 12, 19, 19)] :: ((wsL_edge_r1 ++ (wsL_edge_r2 ++ wsL_edge_r3)) ++ wsX70 ++ wsX20 ++ wsX30 ++ (vx_atS RX7 66 "java/lang/IllegalArgumentException" ["java/lang/RuntimeException", "java/lang/Exception"]).filter goodWord ++ (vx_atS RX7 90 "java/lang/IllegalStateException" ["java/lang/RuntimeException", "java/lang/Exception"]).filter goodWord)
def wsL_drop : List Cond := .codeWith yL_drop cL_drop 3 (some .int) [(0, 8, 11, 19)] :: ([.classLink RL 19 "java/lang/IllegalStateException", .methodLink RL 21 yX7_drop, .instanceMethod yX7_drop, .selects RX7 yX7_drop yX7_drop, .initialized RX7, .code yX7_drop cX7_drop 1 (some .int), .classLink RX7 86 "java/lang/IllegalStateException", .initialized "java/lang/IllegalStateException", .fieldLink RX7 10 "CycleHouse" "graph" "LCycleHouse$Graph;", .methodLink RX7 107 yX2_removeLast, .instanceMethod yX2_removeLast, .selects RX2 yX2_removeLast yX2_removeLast, .initialized RX2, .code yX2_removeLast cX2_removeLast 1 (some .int), .fieldLink RX2 25 "CycleHouse$Graph" "edges" "I"] ++ wsX70 ++ wsX20 ++ (vx_atS RX7 90 "java/lang/IllegalStateException" ["java/lang/RuntimeException", "java/lang/Exception"]).filter goodWord)
def wsL_forests_r1 : List Cond := [Cond.classLink RL 13 "java/lang/IllegalArgumentException", Cond.methodLink RL 25 yX7_forests, Cond.instanceMethod yX7_forests, Cond.selects RX7 yX7_forests yX7_forests, Cond.initialized RX7, Cond.code yX7_forests cX7_forests 3 (some .long), Cond.fieldLink RX7 47 "CycleHouse" "forestCount" "LCycleHouse$ForestCount;", Cond.fieldLink RX7 10 "CycleHouse" "graph" "LCycleHouse$Graph;", Cond.fieldLink RX7 26 "CycleHouse" "groups" "LCycleHouse$Groups;", Cond.methodLink RX7 110 yX7_checkEdges, Cond.instanceMethod yX7_checkEdges, Cond.selects RX7 yX7_checkEdges yX7_checkEdges, Cond.code yX7_checkEdges cX7_checkEdges 3 none, Cond.classLink RX7 62 "java/lang/IllegalArgumentException", Cond.initialized "java/lang/IllegalArgumentException", Cond.methodLink RX7 114 yX7_joinSet, Cond.instanceMethod yX7_joinSet, Cond.selects RX7 yX7_joinSet yX7_joinSet, Cond.code yX7_joinSet cX7_joinSet 5 (some .int), Cond.methodLink RX7 230 yX3_part, Cond.instanceMethod yX3_part, Cond.selects RX3 yX3_part yX3_part, Cond.initialized RX3, Cond.code yX3_part cX3_part 3 none]
def wsL_forests_r2 : List Cond := [Cond.fieldLink RX3 19 "CycleHouse$Groups" "vertices" "I", Cond.fieldLink RX3 23 "CycleHouse$Groups" "count" "I", Cond.fieldLink RX3 9 "CycleHouse$Groups" "name" "[I", Cond.fieldLink RX3 15 "CycleHouse$Groups" "way" "[J", Cond.methodLink RX7 233 yX7_has, Cond.static yX7_has, Cond.code yX7_has cX7_has 3 (some .boolean), Cond.methodLink RX7 237 yX3_join, Cond.instanceMethod yX3_join, Cond.selects RX3 yX3_join yX3_join, Cond.code yX3_join cX3_join 7 (some .long), Cond.methodLink RX3 34 yX3_together, Cond.instanceMethod yX3_together, Cond.selects RX3 yX3_together yX3_together, Cond.code yX3_together cX3_together 3 (some .boolean), Cond.methodLink RX3 38 yX3_merge, Cond.instanceMethod yX3_merge, Cond.selects RX3 yX3_merge yX3_merge, Cond.code yX3_merge cX3_merge 6 none, Cond.methodLink RX7 118 yX1_count, Cond.instanceMethod yX1_count, Cond.selects RX1 yX1_count yX1_count, Cond.initialized RX1, Cond.code yX1_count cX1_count 6 (some .long)]
def wsL_forests_r3 : List Cond := [Cond.fieldLink RX1 11 "CycleHouse$ForestCount" "table" "[[J", Cond.methodLink RX1 22 yJ7_fill_d0a16, Cond.static yJ7_fill_d0a16, Cond.initialized RJ7, Cond.code yJ7_fill_d0a16 cJ7_fill_d0a16 5 none, Cond.methodLink RX1 43 yX1_determinant, Cond.instanceMethod yX1_determinant, Cond.selects RX1 yX1_determinant yX1_determinant, Cond.code yX1_determinant cX1_determinant 7 (some .long), Cond.methodLink RX1 47 yX1_eliminate, Cond.instanceMethod yX1_eliminate, Cond.selects RX1 yX1_eliminate yX1_eliminate, Cond.code yX1_eliminate cX1_eliminate 7 none]
def wsL_forests : List Cond := .codeWith yL_forests cL_forests 5 (some .int) [(0, 8, 11, 13)] :: ((wsL_forests_r1 ++ (wsL_forests_r2 ++ wsL_forests_r3)) ++ wsX70 ++ wsX20 ++ wsX30 ++ wsX10 ++ (vx_atS RX7 66 "java/lang/IllegalArgumentException" ["java/lang/RuntimeException", "java/lang/Exception"]).filter goodWord)
def wsL_lightest_r1 : List Cond := [Cond.classLink RL 13 "java/lang/IllegalArgumentException", Cond.methodLink RL 29 yX7_lightest, Cond.instanceMethod yX7_lightest, Cond.selects RX7 yX7_lightest yX7_lightest, Cond.initialized RX7, Cond.code yX7_lightest cX7_lightest 3 (some .long), Cond.constantLong RX7 122 (-1), Cond.fieldLink RX7 10 "CycleHouse" "graph" "LCycleHouse$Graph;", Cond.methodLink RX7 110 yX7_checkEdges, Cond.instanceMethod yX7_checkEdges, Cond.selects RX7 yX7_checkEdges yX7_checkEdges, Cond.code yX7_checkEdges cX7_checkEdges 3 none, Cond.classLink RX7 62 "java/lang/IllegalArgumentException", Cond.initialized "java/lang/IllegalArgumentException", Cond.methodLink RX7 114 yX7_joinSet, Cond.instanceMethod yX7_joinSet, Cond.selects RX7 yX7_joinSet yX7_joinSet, Cond.code yX7_joinSet cX7_joinSet 5 (some .int), Cond.fieldLink RX7 26 "CycleHouse" "groups" "LCycleHouse$Groups;", Cond.methodLink RX7 230 yX3_part, Cond.instanceMethod yX3_part, Cond.selects RX3 yX3_part yX3_part, Cond.initialized RX3, Cond.code yX3_part cX3_part 3 none]
def wsL_lightest_r2 : List Cond := [Cond.fieldLink RX3 19 "CycleHouse$Groups" "vertices" "I", Cond.fieldLink RX3 23 "CycleHouse$Groups" "count" "I", Cond.fieldLink RX3 9 "CycleHouse$Groups" "name" "[I", Cond.fieldLink RX3 15 "CycleHouse$Groups" "way" "[J", Cond.methodLink RX7 233 yX7_has, Cond.static yX7_has, Cond.code yX7_has cX7_has 3 (some .boolean), Cond.methodLink RX7 237 yX3_join, Cond.instanceMethod yX3_join, Cond.selects RX3 yX3_join yX3_join, Cond.code yX3_join cX3_join 7 (some .long), Cond.methodLink RX3 34 yX3_together, Cond.instanceMethod yX3_together, Cond.selects RX3 yX3_together yX3_together, Cond.code yX3_together cX3_together 3 (some .boolean), Cond.methodLink RX3 38 yX3_merge, Cond.instanceMethod yX3_merge, Cond.selects RX3 yX3_merge yX3_merge, Cond.code yX3_merge cX3_merge 6 none, Cond.methodLink RX7 124 yX2_weigh, Cond.instanceMethod yX2_weigh, Cond.selects RX2 yX2_weigh yX2_weigh, Cond.initialized RX2, Cond.code yX2_weigh cX2_weigh 3 (some .long)]
def wsL_lightest_r3 : List Cond := [Cond.methodLink RX2 32 yX2_gain, Cond.instanceMethod yX2_gain, Cond.selects RX2 yX2_gain yX2_gain, Cond.code yX2_gain cX2_gain 11 (some .long), Cond.fieldLink RX2 22 "CycleHouse$Graph" "weight" "[I", Cond.methodLink RX2 36 yJ13_bitCount_95d88, Cond.static yJ13_bitCount_95d88, Cond.initialized RJ13, Cond.code yJ13_bitCount_95d88 cJ13_bitCount_95d88 2 (some .int), Cond.constantLong RJ13 314 (6148914691236517205), Cond.constantLong RJ13 316 (3689348814741910323), Cond.constantLong RJ13 318 (1085102592571150095), Cond.methodLink RX2 42 yJ13_numberOfTrailingZeros_95d88, Cond.static yJ13_numberOfTrailingZeros_95d88, Cond.code yJ13_numberOfTrailingZeros_95d88 cJ13_numberOfTrailingZeros_95d88 3 (some .int), Cond.methodLink RJ13 311 yJ6_numberOfTrailingZeros_0f7a4, Cond.static yJ6_numberOfTrailingZeros_0f7a4, Cond.initialized RJ6, Cond.code yJ6_numberOfTrailingZeros_0f7a4 cJ6_numberOfTrailingZeros_0f7a4 2 (some .int), Cond.constant RJ6 264 (65536), Cond.methodLink RX7 128 yX7_weightOfLightestJoins, Cond.instanceMethod yX7_weightOfLightestJoins, Cond.selects RX7 yX7_weightOfLightestJoins yX7_weightOfLightestJoins, Cond.code yX7_weightOfLightestJoins cX7_weightOfLightestJoins 5 (some .long)]
def wsL_lightest_r4 : List Cond := [Cond.methodLink RX7 241 yX7_lightestJoin, Cond.instanceMethod yX7_lightestJoin, Cond.selects RX7 yX7_lightestJoin yX7_lightestJoin, Cond.code yX7_lightestJoin cX7_lightestJoin 3 (some .int), Cond.methodLink RX7 95 yX3_together]
def wsL_lightest : List Cond := .codeWith yL_lightest cL_lightest 5 (some .int) [(0, 8, 11, 13)] :: ((wsL_lightest_r1 ++ (wsL_lightest_r2 ++ (wsL_lightest_r3 ++ wsL_lightest_r4))) ++ wsX70 ++ wsX20 ++ wsX30 ++ (vx_atS RX7 66 "java/lang/IllegalArgumentException" ["java/lang/RuntimeException", "java/lang/Exception"]).filter goodWord)
def wsL_isCycle_r1 : List Cond := [Cond.classLink RL 13 "java/lang/IllegalArgumentException", Cond.methodLink RL 32 yX7_isCycle, Cond.instanceMethod yX7_isCycle, Cond.selects RX7 yX7_isCycle yX7_isCycle, Cond.initialized RX7, Cond.code yX7_isCycle cX7_isCycle 3 (some .int), Cond.fieldLink RX7 10 "CycleHouse" "graph" "LCycleHouse$Graph;", Cond.methodLink RX7 110 yX7_checkEdges, Cond.instanceMethod yX7_checkEdges, Cond.selects RX7 yX7_checkEdges yX7_checkEdges, Cond.code yX7_checkEdges cX7_checkEdges 3 none, Cond.classLink RX7 62 "java/lang/IllegalArgumentException", Cond.initialized "java/lang/IllegalArgumentException", Cond.methodLink RX7 132 yX2_isEven, Cond.instanceMethod yX2_isEven, Cond.selects RX2 yX2_isEven yX2_isEven, Cond.initialized RX2, Cond.code yX2_isEven cX2_isEven 5 (some .boolean), Cond.fieldLink RX2 25 "CycleHouse$Graph" "edges" "I", Cond.fieldLink RX2 15 "CycleHouse$Graph" "from" "[I", Cond.fieldLink RX2 19 "CycleHouse$Graph" "to" "[I", Cond.static yX7_has, Cond.code yX7_has cX7_has 3 (some .boolean), Cond.methodLink RX7 114 yX7_joinSet]
def wsL_isCycle_r2 : List Cond := [Cond.instanceMethod yX7_joinSet, Cond.selects RX7 yX7_joinSet yX7_joinSet, Cond.code yX7_joinSet cX7_joinSet 5 (some .int), Cond.fieldLink RX7 26 "CycleHouse" "groups" "LCycleHouse$Groups;", Cond.methodLink RX7 230 yX3_part, Cond.instanceMethod yX3_part, Cond.selects RX3 yX3_part yX3_part, Cond.initialized RX3, Cond.code yX3_part cX3_part 3 none, Cond.fieldLink RX3 19 "CycleHouse$Groups" "vertices" "I", Cond.fieldLink RX3 23 "CycleHouse$Groups" "count" "I", Cond.fieldLink RX3 9 "CycleHouse$Groups" "name" "[I", Cond.fieldLink RX3 15 "CycleHouse$Groups" "way" "[J", Cond.methodLink RX7 233 yX7_has, Cond.methodLink RX7 237 yX3_join, Cond.instanceMethod yX3_join, Cond.selects RX3 yX3_join yX3_join, Cond.code yX3_join cX3_join 7 (some .long), Cond.methodLink RX3 34 yX3_together, Cond.instanceMethod yX3_together, Cond.selects RX3 yX3_together yX3_together, Cond.code yX3_together cX3_together 3 (some .boolean), Cond.methodLink RX3 38 yX3_merge, Cond.instanceMethod yX3_merge]
def wsL_isCycle_r3 : List Cond := [Cond.selects RX3 yX3_merge yX3_merge, Cond.code yX3_merge cX3_merge 6 none]
def wsL_isCycle : List Cond := .codeWith yL_isCycle cL_isCycle 5 (some .int) [(0, 9, 12, 13)] :: ((wsL_isCycle_r1 ++ (wsL_isCycle_r2 ++ wsL_isCycle_r3)) ++ wsX70 ++ wsX20 ++ wsX30 ++ (vx_atS RX7 66 "java/lang/IllegalArgumentException" ["java/lang/RuntimeException", "java/lang/Exception"]).filter goodWord)
def wsL_through_r1 : List Cond := [Cond.classLink RL 40 "java/util/NoSuchElementException", Cond.methodLink RL 36 yX7_through, Cond.instanceMethod yX7_through, Cond.selects RX7 yX7_through yX7_through, Cond.initialized RX7, Cond.code yX7_through cX7_through 3 (some .long), Cond.classLink RX7 136 "java/util/NoSuchElementException", Cond.initialized "java/util/NoSuchElementException", Cond.fieldLink RX7 10 "CycleHouse" "graph" "LCycleHouse$Graph;", Cond.fieldLink RX7 33 "CycleHouse" "ways" "LCycleHouse$Ways;", Cond.constantLong RX7 122 (-1), Cond.methodLink RX7 145 yX6_seek, Cond.instanceMethod yX6_seek, Cond.selects RX6 yX6_seek yX6_seek, Cond.initialized RX6, Cond.code yX6_seek cX6_seek 6 none, Cond.fieldLink RX6 9 "CycleHouse$Ways" "length" "[J", Cond.constantLong RX6 24 (1152921504606846976), Cond.fieldLink RX6 15 "CycleHouse$Ways" "way" "[J", Cond.methodLink RX6 26 yX6_shortenAll, Cond.instanceMethod yX6_shortenAll, Cond.selects RX6 yX6_shortenAll yX6_shortenAll, Cond.code yX6_shortenAll cX6_shortenAll 7 (some .boolean), Cond.methodLink RX6 43 yX6_shorten]
def wsL_through_r2 : List Cond := [Cond.instanceMethod yX6_shorten, Cond.selects RX6 yX6_shorten yX6_shorten, Cond.code yX6_shorten cX6_shorten 5 (some .boolean), Cond.methodLink RX7 152 yX6_reaches, Cond.instanceMethod yX6_reaches, Cond.selects RX6 yX6_reaches yX6_reaches, Cond.code yX6_reaches cX6_reaches 2 (some .boolean)]
def wsL_through : List Cond := .codeWith yL_through cL_through 4 (some .int) [(0, 8, 11, 40)] :: ((wsL_through_r1 ++ wsL_through_r2) ++ wsX70 ++ wsX20 ++ wsX60 ++ (vx_atS RX7 140 "java/util/NoSuchElementException" ["java/lang/RuntimeException", "java/lang/Exception"]).filter goodWord)
def wsL_basis_r1 : List Cond := [Cond.classLink RL 40 "java/util/NoSuchElementException", Cond.methodLink RL 42 yX7_basis, Cond.instanceMethod yX7_basis, Cond.selects RX7 yX7_basis yX7_basis, Cond.initialized RX7, Cond.code yX7_basis cX7_basis 2 (some .long), Cond.classLink RX7 136 "java/util/NoSuchElementException", Cond.initialized "java/util/NoSuchElementException", Cond.fieldLink RX7 40 "CycleHouse" "lightBasis" "LCycleHouse$LightBasis;", Cond.fieldLink RX7 10 "CycleHouse" "graph" "LCycleHouse$Graph;", Cond.fieldLink RX7 33 "CycleHouse" "ways" "LCycleHouse$Ways;", Cond.methodLink RX7 91 yX7_joinWhole, Cond.instanceMethod yX7_joinWhole, Cond.selects RX7 yX7_joinWhole yX7_joinWhole, Cond.code yX7_joinWhole cX7_joinWhole 1 (some .int), Cond.methodLink RX7 114 yX7_joinSet, Cond.instanceMethod yX7_joinSet, Cond.selects RX7 yX7_joinSet yX7_joinSet, Cond.code yX7_joinSet cX7_joinSet 5 (some .int), Cond.fieldLink RX7 26 "CycleHouse" "groups" "LCycleHouse$Groups;", Cond.methodLink RX7 230 yX3_part, Cond.instanceMethod yX3_part, Cond.selects RX3 yX3_part yX3_part, Cond.initialized RX3]
def wsL_basis_r2 : List Cond := [Cond.code yX3_part cX3_part 3 none, Cond.fieldLink RX3 19 "CycleHouse$Groups" "vertices" "I", Cond.fieldLink RX3 23 "CycleHouse$Groups" "count" "I", Cond.fieldLink RX3 9 "CycleHouse$Groups" "name" "[I", Cond.fieldLink RX3 15 "CycleHouse$Groups" "way" "[J", Cond.methodLink RX7 233 yX7_has, Cond.static yX7_has, Cond.code yX7_has cX7_has 3 (some .boolean), Cond.methodLink RX7 237 yX3_join, Cond.instanceMethod yX3_join, Cond.selects RX3 yX3_join yX3_join, Cond.code yX3_join cX3_join 7 (some .long), Cond.methodLink RX3 34 yX3_together, Cond.instanceMethod yX3_together, Cond.selects RX3 yX3_together yX3_together, Cond.code yX3_together cX3_together 3 (some .boolean), Cond.methodLink RX3 38 yX3_merge, Cond.instanceMethod yX3_merge, Cond.selects RX3 yX3_merge yX3_merge, Cond.code yX3_merge cX3_merge 6 none, Cond.methodLink RX7 163 yX4_find, Cond.instanceMethod yX4_find, Cond.selects RX4 yX4_find yX4_find, Cond.initialized RX4]
def wsL_basis_r3 : List Cond := [Cond.code yX4_find cX4_find 4 none, Cond.fieldLink RX4 28 "CycleHouse$LightBasis" "size" "I", Cond.fieldLink RX4 9 "CycleHouse$LightBasis" "ring" "[J", Cond.fieldLink RX4 18 "CycleHouse$LightBasis" "left" "[J", Cond.fieldLink RX4 15 "CycleHouse$LightBasis" "weight" "[J", Cond.fieldLink RX4 21 "CycleHouse$LightBasis" "leftWeight" "[J", Cond.methodLink RX4 24 yX4_gatherAll, Cond.instanceMethod yX4_gatherAll, Cond.selects RX4 yX4_gatherAll yX4_gatherAll, Cond.code yX4_gatherAll cX4_gatherAll 5 none, Cond.fieldLink RX4 44 "CycleHouse$LightBasis" "candidates" "I", Cond.methodLink RX4 52 yX6_seek, Cond.instanceMethod yX6_seek, Cond.selects RX6 yX6_seek yX6_seek, Cond.initialized RX6, Cond.code yX6_seek cX6_seek 6 none, Cond.fieldLink RX6 9 "CycleHouse$Ways" "length" "[J", Cond.constantLong RX6 24 (1152921504606846976), Cond.fieldLink RX6 15 "CycleHouse$Ways" "way" "[J", Cond.methodLink RX6 26 yX6_shortenAll, Cond.instanceMethod yX6_shortenAll, Cond.selects RX6 yX6_shortenAll yX6_shortenAll, Cond.code yX6_shortenAll cX6_shortenAll 7 (some .boolean), Cond.methodLink RX6 43 yX6_shorten]
def wsL_basis_r4 : List Cond := [Cond.instanceMethod yX6_shorten, Cond.selects RX6 yX6_shorten yX6_shorten, Cond.code yX6_shorten cX6_shorten 5 (some .boolean), Cond.methodLink RX4 61 yX4_gather, Cond.instanceMethod yX4_gather, Cond.selects RX4 yX4_gather yX4_gather, Cond.code yX4_gather cX4_gather 8 none, Cond.methodLink RX4 75 yX6_reaches, Cond.instanceMethod yX6_reaches, Cond.selects RX6 yX6_reaches yX6_reaches, Cond.code yX6_reaches cX6_reaches 2 (some .boolean), Cond.methodLink RX4 32 yX4_lightestLeft, Cond.instanceMethod yX4_lightestLeft, Cond.selects RX4 yX4_lightestLeft yX4_lightestLeft, Cond.code yX4_lightestLeft cX4_lightestLeft 3 (some .int), Cond.methodLink RX4 36 yX4_strike, Cond.instanceMethod yX4_strike, Cond.selects RX4 yX4_strike yX4_strike, Cond.code yX4_strike cX4_strike 4 none, Cond.methodLink RX4 40 yX4_mark, Cond.static yX4_mark, Cond.code yX4_mark cX4_mark 2 (some .long)]
def wsL_basis : List Cond := .codeWith yL_basis cL_basis 4 (some .int) [(0, 8, 11, 40)] :: ((wsL_basis_r1 ++ (wsL_basis_r2 ++ (wsL_basis_r3 ++ wsL_basis_r4))) ++ wsX70 ++ wsX40 ++ wsX20 ++ wsX30 ++ wsX60 ++ (vx_atS RX7 140 "java/util/NoSuchElementException" ["java/lang/RuntimeException", "java/lang/Exception"]).filter goodWord)
def wsL_belongs_r1 : List Cond := [Cond.classLink RL 13 "java/lang/IllegalArgumentException", Cond.methodLink RL 45 yX7_belongs, Cond.instanceMethod yX7_belongs, Cond.selects RX7 yX7_belongs yX7_belongs, Cond.initialized RX7, Cond.code yX7_belongs cX7_belongs 3 (some .boolean), Cond.fieldLink RX7 10 "CycleHouse" "graph" "LCycleHouse$Graph;", Cond.fieldLink RX7 40 "CycleHouse" "lightBasis" "LCycleHouse$LightBasis;", Cond.fieldLink RX7 33 "CycleHouse" "ways" "LCycleHouse$Ways;", Cond.methodLink RX7 110 yX7_checkEdges, Cond.instanceMethod yX7_checkEdges, Cond.selects RX7 yX7_checkEdges yX7_checkEdges, Cond.code yX7_checkEdges cX7_checkEdges 3 none, Cond.classLink RX7 62 "java/lang/IllegalArgumentException", Cond.initialized "java/lang/IllegalArgumentException", Cond.methodLink RX7 132 yX2_isEven, Cond.instanceMethod yX2_isEven, Cond.selects RX2 yX2_isEven yX2_isEven, Cond.initialized RX2, Cond.code yX2_isEven cX2_isEven 5 (some .boolean), Cond.fieldLink RX2 25 "CycleHouse$Graph" "edges" "I", Cond.fieldLink RX2 15 "CycleHouse$Graph" "from" "[I", Cond.fieldLink RX2 19 "CycleHouse$Graph" "to" "[I", Cond.static yX7_has]
def wsL_belongs_r2 : List Cond := [Cond.code yX7_has cX7_has 3 (some .boolean), Cond.methodLink RX7 163 yX4_find, Cond.instanceMethod yX4_find, Cond.selects RX4 yX4_find yX4_find, Cond.initialized RX4, Cond.code yX4_find cX4_find 4 none, Cond.fieldLink RX4 28 "CycleHouse$LightBasis" "size" "I", Cond.fieldLink RX4 9 "CycleHouse$LightBasis" "ring" "[J", Cond.fieldLink RX4 18 "CycleHouse$LightBasis" "left" "[J", Cond.fieldLink RX4 15 "CycleHouse$LightBasis" "weight" "[J", Cond.fieldLink RX4 21 "CycleHouse$LightBasis" "leftWeight" "[J", Cond.methodLink RX4 24 yX4_gatherAll, Cond.instanceMethod yX4_gatherAll, Cond.selects RX4 yX4_gatherAll yX4_gatherAll, Cond.code yX4_gatherAll cX4_gatherAll 5 none, Cond.fieldLink RX4 44 "CycleHouse$LightBasis" "candidates" "I", Cond.methodLink RX4 52 yX6_seek, Cond.instanceMethod yX6_seek, Cond.selects RX6 yX6_seek yX6_seek, Cond.initialized RX6, Cond.code yX6_seek cX6_seek 6 none, Cond.fieldLink RX6 9 "CycleHouse$Ways" "length" "[J", Cond.constantLong RX6 24 (1152921504606846976), Cond.fieldLink RX6 15 "CycleHouse$Ways" "way" "[J"]
def wsL_belongs_r3 : List Cond := [Cond.methodLink RX6 26 yX6_shortenAll, Cond.instanceMethod yX6_shortenAll, Cond.selects RX6 yX6_shortenAll yX6_shortenAll, Cond.code yX6_shortenAll cX6_shortenAll 7 (some .boolean), Cond.methodLink RX6 43 yX6_shorten, Cond.instanceMethod yX6_shorten, Cond.selects RX6 yX6_shorten yX6_shorten, Cond.code yX6_shorten cX6_shorten 5 (some .boolean), Cond.methodLink RX4 61 yX4_gather, Cond.instanceMethod yX4_gather, Cond.selects RX4 yX4_gather yX4_gather, Cond.code yX4_gather cX4_gather 8 none, Cond.methodLink RX4 75 yX6_reaches, Cond.instanceMethod yX6_reaches, Cond.selects RX6 yX6_reaches yX6_reaches, Cond.code yX6_reaches cX6_reaches 2 (some .boolean), Cond.methodLink RX4 32 yX4_lightestLeft, Cond.instanceMethod yX4_lightestLeft, Cond.selects RX4 yX4_lightestLeft yX4_lightestLeft, Cond.code yX4_lightestLeft cX4_lightestLeft 3 (some .int), Cond.methodLink RX4 36 yX4_strike, Cond.instanceMethod yX4_strike, Cond.selects RX4 yX4_strike yX4_strike, Cond.code yX4_strike cX4_strike 4 none]
def wsL_belongs_r4 : List Cond := [Cond.methodLink RX4 40 yX4_mark, Cond.static yX4_mark, Cond.code yX4_mark cX4_mark 2 (some .long), Cond.methodLink RX7 124 yX2_weigh, Cond.instanceMethod yX2_weigh, Cond.selects RX2 yX2_weigh yX2_weigh, Cond.code yX2_weigh cX2_weigh 3 (some .long), Cond.methodLink RX2 32 yX2_gain, Cond.instanceMethod yX2_gain, Cond.selects RX2 yX2_gain yX2_gain, Cond.code yX2_gain cX2_gain 11 (some .long), Cond.fieldLink RX2 22 "CycleHouse$Graph" "weight" "[I", Cond.methodLink RX2 36 yJ13_bitCount_95d88, Cond.static yJ13_bitCount_95d88, Cond.initialized RJ13, Cond.code yJ13_bitCount_95d88 cJ13_bitCount_95d88 2 (some .int), Cond.constantLong RJ13 314 (6148914691236517205), Cond.constantLong RJ13 316 (3689348814741910323), Cond.constantLong RJ13 318 (1085102592571150095), Cond.methodLink RX2 42 yJ13_numberOfTrailingZeros_95d88, Cond.static yJ13_numberOfTrailingZeros_95d88, Cond.code yJ13_numberOfTrailingZeros_95d88 cJ13_numberOfTrailingZeros_95d88 3 (some .int), Cond.methodLink RJ13 311 yJ6_numberOfTrailingZeros_0f7a4, Cond.static yJ6_numberOfTrailingZeros_0f7a4]
def wsL_belongs_r5 : List Cond := [Cond.initialized RJ6, Cond.code yJ6_numberOfTrailingZeros_0f7a4 cJ6_numberOfTrailingZeros_0f7a4 2 (some .int), Cond.constant RJ6 264 (65536), Cond.methodLink RX7 169 yX4_isSumOfLighter, Cond.instanceMethod yX4_isSumOfLighter, Cond.selects RX4 yX4_isSumOfLighter yX4_isSumOfLighter, Cond.code yX4_isSumOfLighter cX4_isSumOfLighter 8 (some .boolean)]
def wsL_belongs : List Cond := .codeWith yL_belongs cL_belongs 5 (some .int) [(0, 16, 19, 13)] :: ((wsL_belongs_r1 ++ (wsL_belongs_r2 ++ (wsL_belongs_r3 ++ (wsL_belongs_r4 ++ wsL_belongs_r5)))) ++ wsX70 ++ wsX20 ++ wsX40 ++ wsX60 ++ (vx_atS RX7 66 "java/lang/IllegalArgumentException" ["java/lang/RuntimeException", "java/lang/Exception"]).filter goodWord)
def wsL_add_r1 : List Cond := [Cond.classLink RL 13 "java/lang/IllegalArgumentException", Cond.classLink RL 19 "java/lang/IllegalStateException", Cond.methodLink RL 49 yX7_add, Cond.instanceMethod yX7_add, Cond.selects RX7 yX7_add yX7_add, Cond.initialized RX7, Cond.code yX7_add cX7_add 3 (some .int), Cond.classLink RX7 86 "java/lang/IllegalStateException", Cond.initialized "java/lang/IllegalStateException", Cond.fieldLink RX7 19 "CycleHouse" "list" "LCycleHouse$SetList;", Cond.methodLink RX7 189 yX7_checkListed, Cond.instanceMethod yX7_checkListed, Cond.selects RX7 yX7_checkListed yX7_checkListed, Cond.code yX7_checkListed cX7_checkListed 3 none, Cond.classLink RX7 62 "java/lang/IllegalArgumentException", Cond.initialized "java/lang/IllegalArgumentException", Cond.methodLink RX7 197 yX5_append, Cond.instanceMethod yX5_append, Cond.selects RX5 yX5_append yX5_append, Cond.initialized RX5, Cond.code yX5_append cX5_append 5 (some .int), Cond.fieldLink RX5 9 "CycleHouse$SetList" "row" "[J", Cond.fieldLink RX5 25 "CycleHouse$SetList" "rank" "I", Cond.fieldLink RX5 29 "CycleHouse$SetList" "sets" "I"]
def wsL_add_r2 : List Cond := [Cond.methodLink RX5 15 yX5_rest, Cond.instanceMethod yX5_rest, Cond.selects RX5 yX5_rest yX5_rest, Cond.code yX5_rest cX5_rest 6 (some .long), Cond.static yX7_has, Cond.code yX7_has cX7_has 3 (some .boolean), Cond.methodLink RX5 19 yJ13_numberOfTrailingZeros_95d88, Cond.static yJ13_numberOfTrailingZeros_95d88, Cond.initialized RJ13, Cond.code yJ13_numberOfTrailingZeros_95d88 cJ13_numberOfTrailingZeros_95d88 3 (some .int), Cond.methodLink RJ13 311 yJ6_numberOfTrailingZeros_0f7a4, Cond.static yJ6_numberOfTrailingZeros_0f7a4, Cond.initialized RJ6, Cond.code yJ6_numberOfTrailingZeros_0f7a4 cJ6_numberOfTrailingZeros_0f7a4 2 (some .int), Cond.constant RJ6 264 (65536)]
def wsL_add : List Cond := .codeWith yL_add cL_add 5 (some .int) [(0, 9, 12, 13), (0, 9, 16, 19)] :: ((wsL_add_r1 ++ wsL_add_r2) ++ wsX70 ++ wsX50 ++ (vx_atS RX7 90 "java/lang/IllegalStateException" ["java/lang/RuntimeException", "java/lang/Exception"]).filter goodWord ++ (vx_atS RX7 66 "java/lang/IllegalArgumentException" ["java/lang/RuntimeException", "java/lang/Exception"]).filter goodWord)
def wsL_spans : List Cond := .codeWith yL_spans cL_spans 5 (some .int) [(0, 16, 19, 13)] :: ([.classLink RL 13 "java/lang/IllegalArgumentException", .methodLink RL 52 yX7_spans, .instanceMethod yX7_spans, .selects RX7 yX7_spans yX7_spans, .initialized RX7, .code yX7_spans cX7_spans 3 (some .boolean), .fieldLink RX7 19 "CycleHouse" "list" "LCycleHouse$SetList;", .methodLink RX7 189 yX7_checkListed, .instanceMethod yX7_checkListed, .selects RX7 yX7_checkListed yX7_checkListed, .code yX7_checkListed cX7_checkListed 3 none, .classLink RX7 62 "java/lang/IllegalArgumentException", .initialized "java/lang/IllegalArgumentException", .methodLink RX7 202 yX5_rest, .instanceMethod yX5_rest, .selects RX5 yX5_rest yX5_rest, .initialized RX5, .code yX5_rest cX5_rest 6 (some .long), .fieldLink RX5 9 "CycleHouse$SetList" "row" "[J", .static yX7_has, .code yX7_has cX7_has 3 (some .boolean)] ++ wsX70 ++ wsX50 ++ (vx_atS RX7 66 "java/lang/IllegalArgumentException" ["java/lang/RuntimeException", "java/lang/Exception"]).filter goodWord)
def wsL_look_r1 : List Cond := [Cond.classLink RL 13 "java/lang/IllegalArgumentException", Cond.methodLink RL 55 yX7_look, Cond.instanceMethod yX7_look, Cond.selects RX7 yX7_look yX7_look, Cond.initialized RX7, Cond.code yX7_look cX7_look 2 (some .int), Cond.classLink RX7 62 "java/lang/IllegalArgumentException", Cond.initialized "java/lang/IllegalArgumentException", Cond.fieldLink RX7 10 "CycleHouse" "graph" "LCycleHouse$Graph;", Cond.fieldLink RX7 19 "CycleHouse" "list" "LCycleHouse$SetList;", Cond.methodLink RX7 208 yX7_countGroups, Cond.instanceMethod yX7_countGroups, Cond.selects RX7 yX7_countGroups yX7_countGroups, Cond.code yX7_countGroups cX7_countGroups 1 (some .int), Cond.fieldLink RX7 26 "CycleHouse" "groups" "LCycleHouse$Groups;", Cond.methodLink RX7 91 yX7_joinWhole, Cond.instanceMethod yX7_joinWhole, Cond.selects RX7 yX7_joinWhole yX7_joinWhole, Cond.code yX7_joinWhole cX7_joinWhole 1 (some .int), Cond.methodLink RX7 114 yX7_joinSet, Cond.instanceMethod yX7_joinSet, Cond.selects RX7 yX7_joinSet yX7_joinSet, Cond.code yX7_joinSet cX7_joinSet 5 (some .int), Cond.methodLink RX7 230 yX3_part]
def wsL_look_r2 : List Cond := [Cond.instanceMethod yX3_part, Cond.selects RX3 yX3_part yX3_part, Cond.initialized RX3, Cond.code yX3_part cX3_part 3 none, Cond.fieldLink RX3 19 "CycleHouse$Groups" "vertices" "I", Cond.fieldLink RX3 23 "CycleHouse$Groups" "count" "I", Cond.fieldLink RX3 9 "CycleHouse$Groups" "name" "[I", Cond.fieldLink RX3 15 "CycleHouse$Groups" "way" "[J", Cond.methodLink RX7 233 yX7_has, Cond.static yX7_has, Cond.code yX7_has cX7_has 3 (some .boolean), Cond.methodLink RX7 237 yX3_join, Cond.instanceMethod yX3_join, Cond.selects RX3 yX3_join yX3_join, Cond.code yX3_join cX3_join 7 (some .long), Cond.methodLink RX3 34 yX3_together, Cond.instanceMethod yX3_together, Cond.selects RX3 yX3_together yX3_together, Cond.code yX3_together cX3_together 3 (some .boolean), Cond.methodLink RX3 38 yX3_merge, Cond.instanceMethod yX3_merge, Cond.selects RX3 yX3_merge yX3_merge, Cond.code yX3_merge cX3_merge 6 none, Cond.methodLink RX7 211 yX7_countEdgesInNoCycle]
def wsL_look_r3 : List Cond := [Cond.instanceMethod yX7_countEdgesInNoCycle, Cond.selects RX7 yX7_countEdgesInNoCycle yX7_countEdgesInNoCycle, Cond.code yX7_countEdgesInNoCycle cX7_countEdgesInNoCycle 5 (some .int), Cond.fieldLink RX7 58 "CycleHouse" "rings" "[J", Cond.methodLink RX7 176 yX7_fillRings, Cond.instanceMethod yX7_fillRings, Cond.selects RX7 yX7_fillRings yX7_fillRings, Cond.code yX7_fillRings cX7_fillRings 5 (some .int), Cond.methodLink RX7 246 yJ13_bitCount_95d88, Cond.static yJ13_bitCount_95d88, Cond.initialized RJ13, Cond.code yJ13_bitCount_95d88 cJ13_bitCount_95d88 2 (some .int), Cond.constantLong RJ13 314 (6148914691236517205), Cond.constantLong RJ13 316 (3689348814741910323), Cond.constantLong RJ13 318 (1085102592571150095), Cond.methodLink RX7 214 yX7_hasOddCycle, Cond.instanceMethod yX7_hasOddCycle, Cond.selects RX7 yX7_hasOddCycle yX7_hasOddCycle, Cond.code yX7_hasOddCycle cX7_hasOddCycle 3 (some .boolean), Cond.methodLink RX7 221 yX7_countCuttingVertices, Cond.instanceMethod yX7_countCuttingVertices, Cond.selects RX7 yX7_countCuttingVertices yX7_countCuttingVertices, Cond.code yX7_countCuttingVertices cX7_countCuttingVertices 4 (some .int), Cond.methodLink RX7 251 yX2_edgesApartFrom]
def wsL_look_r4 : List Cond := [Cond.instanceMethod yX2_edgesApartFrom, Cond.selects RX2 yX2_edgesApartFrom yX2_edgesApartFrom, Cond.initialized RX2, Cond.code yX2_edgesApartFrom cX2_edgesApartFrom 5 (some .long), Cond.fieldLink RX2 25 "CycleHouse$Graph" "edges" "I", Cond.fieldLink RX2 15 "CycleHouse$Graph" "from" "[I", Cond.fieldLink RX2 19 "CycleHouse$Graph" "to" "[I"]
def wsL_look : List Cond := .codeWith yL_look cL_look 4 (some .int) [(0, 9, 12, 13)] :: ((wsL_look_r1 ++ (wsL_look_r2 ++ (wsL_look_r3 ++ wsL_look_r4))) ++ wsX70 ++ wsX20 ++ wsX50 ++ wsX30 ++ (vx_atS RX7 66 "java/lang/IllegalArgumentException" ["java/lang/RuntimeException", "java/lang/Exception"]).filter goodWord)
def wsL_law0_r1 : List Cond := [Cond.classLink RL 8 RX7, Cond.instantiable RX7 8, Cond.initialized RX7, Cond.classLink RL 59 RX8, Cond.instantiable RX8 20, Cond.initialized RX8, Cond.arrayClass .long, Cond.constantLong RL 79 (4294967295), Cond.methodLink RL 58 yX7_init, Cond.instanceMethod yX7_init, Cond.code yX7_init cX7_init 1 none, Cond.methodLink RX7 1 objectInit, Cond.instanceMethod objectInit, Cond.code objectInit ⟨#[0xb1]⟩ 1 none, Cond.classLink RX7 7 RX2, Cond.instantiable RX2 5, Cond.initialized RX2, Cond.fieldLink RX7 10 "CycleHouse" "graph" "LCycleHouse$Graph;", Cond.classLink RX7 16 RX5, Cond.instantiable RX5 3, Cond.initialized RX5, Cond.fieldLink RX7 19 "CycleHouse" "list" "LCycleHouse$SetList;", Cond.classLink RX7 23 RX3, Cond.instantiable RX3 4]
def wsL_law0_r2 : List Cond := [Cond.initialized RX3, Cond.fieldLink RX7 26 "CycleHouse" "groups" "LCycleHouse$Groups;", Cond.classLink RX7 30 RX6, Cond.instantiable RX6 2, Cond.initialized RX6, Cond.fieldLink RX7 33 "CycleHouse" "ways" "LCycleHouse$Ways;", Cond.classLink RX7 37 RX4, Cond.instantiable RX4 6, Cond.initialized RX4, Cond.fieldLink RX7 40 "CycleHouse" "lightBasis" "LCycleHouse$LightBasis;", Cond.classLink RX7 44 RX1, Cond.instantiable RX1 1, Cond.initialized RX1, Cond.fieldLink RX7 47 "CycleHouse" "forestCount" "LCycleHouse$ForestCount;", Cond.classLink RX7 51 RX0, Cond.instantiable RX0 1, Cond.initialized RX0, Cond.fieldLink RX7 54 "CycleHouse" "cycleCount" "LCycleHouse$CycleCount;", Cond.fieldLink RX7 58 "CycleHouse" "rings" "[J", Cond.methodLink RX7 9 yX2_init, Cond.instanceMethod yX2_init, Cond.code yX2_init cX2_init 1 none, Cond.methodLink RX2 3 objectInit, Cond.fieldLink RX2 9 "CycleHouse$Graph" "vertices" "I"]
def wsL_law0_r3 : List Cond := [Cond.arrayClass .int, Cond.fieldLink RX2 15 "CycleHouse$Graph" "from" "[I", Cond.fieldLink RX2 19 "CycleHouse$Graph" "to" "[I", Cond.fieldLink RX2 22 "CycleHouse$Graph" "weight" "[I", Cond.methodLink RX7 18 yX5_init, Cond.instanceMethod yX5_init, Cond.code yX5_init cX5_init 1 none, Cond.methodLink RX5 3 objectInit, Cond.fieldLink RX5 9 "CycleHouse$SetList" "row" "[J", Cond.methodLink RX7 25 yX3_init, Cond.instanceMethod yX3_init, Cond.code yX3_init cX3_init 1 none, Cond.methodLink RX3 3 objectInit, Cond.fieldLink RX3 9 "CycleHouse$Groups" "name" "[I", Cond.fieldLink RX3 15 "CycleHouse$Groups" "way" "[J", Cond.methodLink RX7 32 yX6_init, Cond.instanceMethod yX6_init, Cond.code yX6_init cX6_init 1 none, Cond.methodLink RX6 3 objectInit, Cond.fieldLink RX6 9 "CycleHouse$Ways" "length" "[J", Cond.fieldLink RX6 15 "CycleHouse$Ways" "way" "[J", Cond.methodLink RX7 39 yX4_init, Cond.instanceMethod yX4_init, Cond.code yX4_init cX4_init 1 none]
def wsL_law0_r4 : List Cond := [Cond.methodLink RX4 3 objectInit, Cond.fieldLink RX4 9 "CycleHouse$LightBasis" "ring" "[J", Cond.fieldLink RX4 15 "CycleHouse$LightBasis" "weight" "[J", Cond.fieldLink RX4 18 "CycleHouse$LightBasis" "left" "[J", Cond.fieldLink RX4 21 "CycleHouse$LightBasis" "leftWeight" "[J", Cond.methodLink RX7 46 yX1_init, Cond.instanceMethod yX1_init, Cond.code yX1_init cX1_init 1 none, Cond.methodLink RX1 3 objectInit, Cond.classLink RX1 9 "[[J", Cond.fieldLink RX1 11 "CycleHouse$ForestCount" "table" "[[J", Cond.methodLink RX7 53 yX0_init, Cond.instanceMethod yX0_init, Cond.code yX0_init cX0_init 1 none, Cond.methodLink RX0 3 objectInit, Cond.classLink RX0 9 "[[I", Cond.fieldLink RX0 11 "CycleHouse$CycleCount" "between" "[[I", Cond.methodLink RL 61 yX8_init, Cond.instanceMethod yX8_init, Cond.code yX8_init cX8_init 1 none, Cond.methodLink RX8 1 objectInit, Cond.fieldLink RX8 7 "CycleHouseModel" "n" "I", Cond.fieldLink RX8 13 "CycleHouseModel" "from" "[I", Cond.fieldLink RX8 17 "CycleHouseModel" "to" "[I"]
def wsL_law0_r5 : List Cond := [Cond.fieldLink RX8 20 "CycleHouseModel" "weight" "[I", Cond.fieldLink RX8 23 "CycleHouseModel" "list" "[J", Cond.fieldLink RX8 27 "CycleHouseModel" "group" "[I", Cond.fieldLink RX8 30 "CycleHouseModel" "ways" "[J", Cond.fieldLink RX8 33 "CycleHouseModel" "closing" "[J", Cond.fieldLink RX8 36 "CycleHouseModel" "closer" "[I", Cond.fieldLink RX8 39 "CycleHouseModel" "elements" "[J", Cond.fieldLink RX8 42 "CycleHouseModel" "weights" "[J", Cond.fieldLink RX8 45 "CycleHouseModel" "rows" "[J", Cond.fieldLink RX8 48 "CycleHouseModel" "matrix" "[J", Cond.fieldLink RX8 51 "CycleHouseModel" "place" "[I", Cond.arrayClass .boolean, Cond.fieldLink RX8 54 "CycleHouseModel" "reached" "[Z", Cond.methodLink RL 62 yL_reset, Cond.static yL_reset, Cond.initialized RL, Cond.codeWith yL_reset cL_reset 4 (some .int) [(0, 9, 12, 13)], Cond.classLink RL 13 "java/lang/IllegalArgumentException", Cond.methodLink RL 7 yX7_reset, Cond.instanceMethod yX7_reset, Cond.selects RX7 yX7_reset yX7_reset, Cond.code yX7_reset cX7_reset 3 (some .int), Cond.classLink RX7 62 "java/lang/IllegalArgumentException", Cond.initialized "java/lang/IllegalArgumentException"]
def wsL_law0_r6 : List Cond := [Cond.methodLink RX7 73 yX2_begin, Cond.instanceMethod yX2_begin, Cond.selects RX2 yX2_begin yX2_begin, Cond.code yX2_begin cX2_begin 2 none, Cond.fieldLink RX2 25 "CycleHouse$Graph" "edges" "I", Cond.methodLink RL 67 yX8_reset, Cond.instanceMethod yX8_reset, Cond.selects RX8 yX8_reset yX8_reset, Cond.code yX8_reset cX8_reset 3 (some .int), Cond.fieldLink RX8 61 "CycleHouseModel" "m" "I", Cond.methodLink RX8 78 yX8_throwing, Cond.instanceMethod yX8_throwing, Cond.selects RX8 yX8_throwing yX8_throwing, Cond.code yX8_throwing cX8_throwing 3 (some .boolean), Cond.fieldLink RX8 58 "CycleHouseModel" "thrown" "I", Cond.methodLink RL 68 yX8_thrown, Cond.instanceMethod yX8_thrown, Cond.selects RX8 yX8_thrown yX8_thrown, Cond.code yX8_thrown cX8_thrown 1 (some .int), Cond.methodLink RL 71 yL_edge, Cond.static yL_edge, Cond.codeWith yL_edge cL_edge 6 (some .int) [(0, 12, 15, 13), (0, 12, 19, 19)], Cond.classLink RL 19 "java/lang/IllegalStateException", Cond.methodLink RL 15 yX7_edge]
def wsL_law0_r7 : List Cond := [Cond.instanceMethod yX7_edge, Cond.selects RX7 yX7_edge yX7_edge, Cond.code yX7_edge cX7_edge 4 (some .int), Cond.classLink RX7 86 "java/lang/IllegalStateException", Cond.initialized "java/lang/IllegalStateException", Cond.constant RX7 83 (1000000000), Cond.methodLink RX7 77 yX2_hasVertex, Cond.instanceMethod yX2_hasVertex, Cond.selects RX2 yX2_hasVertex yX2_hasVertex, Cond.code yX2_hasVertex cX2_hasVertex 2 (some .boolean), Cond.methodLink RX7 91 yX7_joinWhole, Cond.instanceMethod yX7_joinWhole, Cond.selects RX7 yX7_joinWhole yX7_joinWhole, Cond.code yX7_joinWhole cX7_joinWhole 1 (some .int), Cond.methodLink RX7 114 yX7_joinSet, Cond.instanceMethod yX7_joinSet, Cond.selects RX7 yX7_joinSet yX7_joinSet, Cond.code yX7_joinSet cX7_joinSet 5 (some .int), Cond.methodLink RX7 230 yX3_part, Cond.instanceMethod yX3_part, Cond.selects RX3 yX3_part yX3_part, Cond.code yX3_part cX3_part 3 none, Cond.fieldLink RX3 19 "CycleHouse$Groups" "vertices" "I", Cond.fieldLink RX3 23 "CycleHouse$Groups" "count" "I"]
def wsL_law0_r8 : List Cond := [Cond.methodLink RX7 233 yX7_has, Cond.static yX7_has, Cond.code yX7_has cX7_has 3 (some .boolean), Cond.methodLink RX7 237 yX3_join, Cond.instanceMethod yX3_join, Cond.selects RX3 yX3_join yX3_join, Cond.code yX3_join cX3_join 7 (some .long), Cond.methodLink RX3 34 yX3_together, Cond.instanceMethod yX3_together, Cond.selects RX3 yX3_together yX3_together, Cond.code yX3_together cX3_together 3 (some .boolean), Cond.methodLink RX3 38 yX3_merge, Cond.instanceMethod yX3_merge, Cond.selects RX3 yX3_merge yX3_merge, Cond.code yX3_merge cX3_merge 6 none, Cond.methodLink RX7 95 yX3_together, Cond.methodLink RX7 101 yX2_append, Cond.instanceMethod yX2_append, Cond.selects RX2 yX2_append yX2_append, Cond.code yX2_append cX2_append 5 (some .int), Cond.methodLink RL 74 yX8_edge, Cond.instanceMethod yX8_edge, Cond.selects RX8 yX8_edge yX8_edge, Cond.code yX8_edge cX8_edge 7 (some .int)]
def wsL_law0_r9 : List Cond := [Cond.constant RX8 85 (1000000000), Cond.methodLink RX8 82 yX8_isVertex, Cond.instanceMethod yX8_isVertex, Cond.selects RX8 yX8_isVertex yX8_isVertex, Cond.code yX8_isVertex cX8_isVertex 2 (some .boolean), Cond.methodLink RX8 86 yX8_dimension, Cond.instanceMethod yX8_dimension, Cond.selects RX8 yX8_dimension yX8_dimension, Cond.code yX8_dimension cX8_dimension 1 (some .int), Cond.methodLink RX8 74 yX8_groups, Cond.instanceMethod yX8_groups, Cond.selects RX8 yX8_groups yX8_groups, Cond.code yX8_groups cX8_groups 3 (some .int), Cond.methodLink RX8 67 yX8_beginGroups, Cond.instanceMethod yX8_beginGroups, Cond.selects RX8 yX8_beginGroups yX8_beginGroups, Cond.code yX8_beginGroups cX8_beginGroups 2 none, Cond.fieldLink RX8 64 "CycleHouseModel" "closed" "I", Cond.methodLink RX8 70 yX8_joins, Cond.instanceMethod yX8_joins, Cond.selects RX8 yX8_joins yX8_joins, Cond.code yX8_joins cX8_joins 8 (some .boolean), Cond.methodLink RL 75 yL_drop, Cond.static yL_drop]
def wsL_law0_r10 : List Cond := [Cond.codeWith yL_drop cL_drop 3 (some .int) [(0, 8, 11, 19)], Cond.methodLink RL 21 yX7_drop, Cond.instanceMethod yX7_drop, Cond.selects RX7 yX7_drop yX7_drop, Cond.code yX7_drop cX7_drop 1 (some .int), Cond.methodLink RX7 107 yX2_removeLast, Cond.instanceMethod yX2_removeLast, Cond.selects RX2 yX2_removeLast yX2_removeLast, Cond.code yX2_removeLast cX2_removeLast 1 (some .int), Cond.methodLink RL 78 yX8_drop, Cond.instanceMethod yX8_drop, Cond.selects RX8 yX8_drop yX8_drop, Cond.code yX8_drop cX8_drop 1 (some .int), Cond.methodLink RL 81 yL_forests, Cond.static yL_forests, Cond.codeWith yL_forests cL_forests 5 (some .int) [(0, 8, 11, 13)], Cond.methodLink RL 25 yX7_forests, Cond.instanceMethod yX7_forests, Cond.selects RX7 yX7_forests yX7_forests, Cond.code yX7_forests cX7_forests 3 (some .long), Cond.methodLink RX7 110 yX7_checkEdges, Cond.instanceMethod yX7_checkEdges, Cond.selects RX7 yX7_checkEdges yX7_checkEdges, Cond.code yX7_checkEdges cX7_checkEdges 3 none]
def wsL_law0_r11 : List Cond := [Cond.methodLink RX7 118 yX1_count, Cond.instanceMethod yX1_count, Cond.selects RX1 yX1_count yX1_count, Cond.code yX1_count cX1_count 6 (some .long), Cond.methodLink RX1 22 yJ7_fill_d0a16, Cond.static yJ7_fill_d0a16, Cond.initialized RJ7, Cond.code yJ7_fill_d0a16 cJ7_fill_d0a16 5 none, Cond.methodLink RX1 43 yX1_determinant, Cond.instanceMethod yX1_determinant, Cond.selects RX1 yX1_determinant yX1_determinant, Cond.code yX1_determinant cX1_determinant 7 (some .long), Cond.methodLink RX1 47 yX1_eliminate, Cond.instanceMethod yX1_eliminate, Cond.selects RX1 yX1_eliminate yX1_eliminate, Cond.code yX1_eliminate cX1_eliminate 7 none, Cond.methodLink RL 84 yX8_forests, Cond.instanceMethod yX8_forests, Cond.selects RX8 yX8_forests yX8_forests, Cond.code yX8_forests cX8_forests 7 (some .long), Cond.methodLink RX8 89 yX8_isSet, Cond.instanceMethod yX8_isSet, Cond.selects RX8 yX8_isSet yX8_isSet, Cond.code yX8_isSet cX8_isSet 3 (some .boolean)]
def wsL_law0_r12 : List Cond := [Cond.methodLink RX8 93 yX8_beginsWith, Cond.instanceMethod yX8_beginsWith, Cond.selects RX8 yX8_beginsWith yX8_beginsWith, Cond.code yX8_beginsWith cX8_beginsWith 5 (some .boolean), Cond.methodLink RX8 96 yX8_isFirst, Cond.instanceMethod yX8_isFirst, Cond.selects RX8 yX8_isFirst yX8_isFirst, Cond.code yX8_isFirst cX8_isFirst 4 (some .boolean), Cond.methodLink RX8 107 yX8_hang, Cond.instanceMethod yX8_hang, Cond.selects RX8 yX8_hang yX8_hang, Cond.code yX8_hang cX8_hang 5 (some .boolean), Cond.methodLink RX8 99 yX8_lay, Cond.instanceMethod yX8_lay, Cond.selects RX8 yX8_lay yX8_lay, Cond.code yX8_lay cX8_lay 3 none, Cond.methodLink RX8 103 yX8_determinant, Cond.instanceMethod yX8_determinant, Cond.selects RX8 yX8_determinant yX8_determinant, Cond.code yX8_determinant cX8_determinant 9 (some .long), Cond.methodLink RL 85 yL_lightest, Cond.static yL_lightest, Cond.codeWith yL_lightest cL_lightest 5 (some .int) [(0, 8, 11, 13)], Cond.methodLink RL 29 yX7_lightest]
def wsL_law0_r13 : List Cond := [Cond.instanceMethod yX7_lightest, Cond.selects RX7 yX7_lightest yX7_lightest, Cond.code yX7_lightest cX7_lightest 3 (some .long), Cond.constantLong RX7 122 (-1), Cond.methodLink RX7 124 yX2_weigh, Cond.instanceMethod yX2_weigh, Cond.selects RX2 yX2_weigh yX2_weigh, Cond.code yX2_weigh cX2_weigh 3 (some .long), Cond.methodLink RX2 32 yX2_gain, Cond.instanceMethod yX2_gain, Cond.selects RX2 yX2_gain yX2_gain, Cond.code yX2_gain cX2_gain 11 (some .long), Cond.methodLink RX2 36 yJ13_bitCount_95d88, Cond.static yJ13_bitCount_95d88, Cond.initialized RJ13, Cond.code yJ13_bitCount_95d88 cJ13_bitCount_95d88 2 (some .int), Cond.constantLong RJ13 314 (6148914691236517205), Cond.constantLong RJ13 316 (3689348814741910323), Cond.constantLong RJ13 318 (1085102592571150095), Cond.methodLink RX2 42 yJ13_numberOfTrailingZeros_95d88, Cond.static yJ13_numberOfTrailingZeros_95d88, Cond.code yJ13_numberOfTrailingZeros_95d88 cJ13_numberOfTrailingZeros_95d88 3 (some .int), Cond.methodLink RJ13 311 yJ6_numberOfTrailingZeros_0f7a4, Cond.static yJ6_numberOfTrailingZeros_0f7a4]
def wsL_law0_r14 : List Cond := [Cond.initialized RJ6, Cond.code yJ6_numberOfTrailingZeros_0f7a4 cJ6_numberOfTrailingZeros_0f7a4 2 (some .int), Cond.constant RJ6 264 (65536), Cond.methodLink RX7 128 yX7_weightOfLightestJoins, Cond.instanceMethod yX7_weightOfLightestJoins, Cond.selects RX7 yX7_weightOfLightestJoins yX7_weightOfLightestJoins, Cond.code yX7_weightOfLightestJoins cX7_weightOfLightestJoins 5 (some .long), Cond.methodLink RX7 241 yX7_lightestJoin, Cond.instanceMethod yX7_lightestJoin, Cond.selects RX7 yX7_lightestJoin yX7_lightestJoin, Cond.code yX7_lightestJoin cX7_lightestJoin 3 (some .int), Cond.methodLink RL 87 yX8_lightest, Cond.instanceMethod yX8_lightest, Cond.selects RX8 yX8_lightest yX8_lightest, Cond.code yX8_lightest cX8_lightest 8 (some .long), Cond.constantLong RX8 111 (-1), Cond.methodLink RX8 113 yX8_weightOf, Cond.instanceMethod yX8_weightOf, Cond.selects RX8 yX8_weightOf yX8_weightOf, Cond.code yX8_weightOf cX8_weightOf 6 (some .long), Cond.methodLink RL 88 yL_isCycle, Cond.static yL_isCycle, Cond.codeWith yL_isCycle cL_isCycle 5 (some .int) [(0, 9, 12, 13)], Cond.methodLink RL 32 yX7_isCycle]
def wsL_law0_r15 : List Cond := [Cond.instanceMethod yX7_isCycle, Cond.selects RX7 yX7_isCycle yX7_isCycle, Cond.code yX7_isCycle cX7_isCycle 3 (some .int), Cond.methodLink RX7 132 yX2_isEven, Cond.instanceMethod yX2_isEven, Cond.selects RX2 yX2_isEven yX2_isEven, Cond.code yX2_isEven cX2_isEven 5 (some .boolean), Cond.methodLink RL 90 yX8_isCycle, Cond.instanceMethod yX8_isCycle, Cond.selects RX8 yX8_isCycle yX8_isCycle, Cond.code yX8_isCycle cX8_isCycle 3 (some .int), Cond.methodLink RX8 121 yX8_isEven, Cond.instanceMethod yX8_isEven, Cond.selects RX8 yX8_isEven yX8_isEven, Cond.code yX8_isEven cX8_isEven 5 (some .boolean), Cond.methodLink RX8 117 yX8_endsAt, Cond.instanceMethod yX8_endsAt, Cond.selects RX8 yX8_endsAt yX8_endsAt, Cond.code yX8_endsAt cX8_endsAt 6 (some .int), Cond.methodLink RX8 124 yX8_isRing, Cond.instanceMethod yX8_isRing, Cond.selects RX8 yX8_isRing yX8_isRing, Cond.code yX8_isRing cX8_isRing 7 (some .boolean), Cond.methodLink RL 91 yL_through]
def wsL_law0_r16 : List Cond := [Cond.static yL_through, Cond.codeWith yL_through cL_through 4 (some .int) [(0, 8, 11, 40)], Cond.classLink RL 40 "java/util/NoSuchElementException", Cond.methodLink RL 36 yX7_through, Cond.instanceMethod yX7_through, Cond.selects RX7 yX7_through yX7_through, Cond.code yX7_through cX7_through 3 (some .long), Cond.classLink RX7 136 "java/util/NoSuchElementException", Cond.initialized "java/util/NoSuchElementException", Cond.methodLink RX7 145 yX6_seek, Cond.instanceMethod yX6_seek, Cond.selects RX6 yX6_seek yX6_seek, Cond.code yX6_seek cX6_seek 6 none, Cond.constantLong RX6 24 (1152921504606846976), Cond.methodLink RX6 26 yX6_shortenAll, Cond.instanceMethod yX6_shortenAll, Cond.selects RX6 yX6_shortenAll yX6_shortenAll, Cond.code yX6_shortenAll cX6_shortenAll 7 (some .boolean), Cond.methodLink RX6 43 yX6_shorten, Cond.instanceMethod yX6_shorten, Cond.selects RX6 yX6_shorten yX6_shorten, Cond.code yX6_shorten cX6_shorten 5 (some .boolean), Cond.methodLink RX7 152 yX6_reaches, Cond.instanceMethod yX6_reaches]
def wsL_law0_r17 : List Cond := [Cond.selects RX6 yX6_reaches yX6_reaches, Cond.code yX6_reaches cX6_reaches 2 (some .boolean), Cond.methodLink RL 93 yX8_through, Cond.instanceMethod yX8_through, Cond.selects RX8 yX8_through yX8_through, Cond.code yX8_through cX8_through 6 (some .long), Cond.methodLink RX8 127 yX8_spread, Cond.instanceMethod yX8_spread, Cond.selects RX8 yX8_spread yX8_spread, Cond.code yX8_spread cX8_spread 4 (some .int), Cond.methodLink RL 94 yL_basis, Cond.static yL_basis, Cond.codeWith yL_basis cL_basis 4 (some .int) [(0, 8, 11, 40)], Cond.methodLink RL 42 yX7_basis, Cond.instanceMethod yX7_basis, Cond.selects RX7 yX7_basis yX7_basis, Cond.code yX7_basis cX7_basis 2 (some .long), Cond.methodLink RX7 163 yX4_find, Cond.instanceMethod yX4_find, Cond.selects RX4 yX4_find yX4_find, Cond.code yX4_find cX4_find 4 none, Cond.fieldLink RX4 28 "CycleHouse$LightBasis" "size" "I", Cond.methodLink RX4 24 yX4_gatherAll, Cond.instanceMethod yX4_gatherAll]
def wsL_law0_r18 : List Cond := [Cond.selects RX4 yX4_gatherAll yX4_gatherAll, Cond.code yX4_gatherAll cX4_gatherAll 5 none, Cond.fieldLink RX4 44 "CycleHouse$LightBasis" "candidates" "I", Cond.methodLink RX4 52 yX6_seek, Cond.methodLink RX4 61 yX4_gather, Cond.instanceMethod yX4_gather, Cond.selects RX4 yX4_gather yX4_gather, Cond.code yX4_gather cX4_gather 8 none, Cond.methodLink RX4 75 yX6_reaches, Cond.methodLink RX4 32 yX4_lightestLeft, Cond.instanceMethod yX4_lightestLeft, Cond.selects RX4 yX4_lightestLeft yX4_lightestLeft, Cond.code yX4_lightestLeft cX4_lightestLeft 3 (some .int), Cond.methodLink RX4 36 yX4_strike, Cond.instanceMethod yX4_strike, Cond.selects RX4 yX4_strike yX4_strike, Cond.code yX4_strike cX4_strike 4 none, Cond.methodLink RX4 40 yX4_mark, Cond.static yX4_mark, Cond.code yX4_mark cX4_mark 2 (some .long), Cond.methodLink RL 96 yX8_basis, Cond.instanceMethod yX8_basis, Cond.selects RX8 yX8_basis yX8_basis, Cond.code yX8_basis cX8_basis 9 (some .long)]
def wsL_law0_r19 : List Cond := [Cond.fieldLink RX8 130 "CycleHouseModel" "rowed" "I", Cond.methodLink RX8 133 yX8_rest, Cond.instanceMethod yX8_rest, Cond.selects RX8 yX8_rest yX8_rest, Cond.code yX8_rest cX8_rest 6 (some .long), Cond.methodLink RX8 136 yX8_take, Cond.instanceMethod yX8_take, Cond.selects RX8 yX8_take yX8_take, Cond.code yX8_take cX8_take 6 (some .boolean), Cond.methodLink RL 97 yL_belongs, Cond.static yL_belongs, Cond.codeWith yL_belongs cL_belongs 5 (some .int) [(0, 16, 19, 13)], Cond.methodLink RL 45 yX7_belongs, Cond.instanceMethod yX7_belongs, Cond.selects RX7 yX7_belongs yX7_belongs, Cond.code yX7_belongs cX7_belongs 3 (some .boolean), Cond.methodLink RX7 169 yX4_isSumOfLighter, Cond.instanceMethod yX4_isSumOfLighter, Cond.selects RX4 yX4_isSumOfLighter yX4_isSumOfLighter, Cond.code yX4_isSumOfLighter cX4_isSumOfLighter 8 (some .boolean), Cond.methodLink RL 99 yX8_belongs, Cond.instanceMethod yX8_belongs, Cond.selects RX8 yX8_belongs yX8_belongs, Cond.code yX8_belongs cX8_belongs 7 (some .boolean)]
def wsL_law0_r20 : List Cond := [Cond.methodLink RX8 139 yX8_numberOf, Cond.instanceMethod yX8_numberOf, Cond.selects RX8 yX8_numberOf yX8_numberOf, Cond.code yX8_numberOf cX8_numberOf 5 (some .int), Cond.methodLink RL 100 yX7_cycles, Cond.instanceMethod yX7_cycles, Cond.selects RX7 yX7_cycles yX7_cycles, Cond.code yX7_cycles cX7_cycles 1 (some .int), Cond.methodLink RX7 173 yX0_count, Cond.instanceMethod yX0_count, Cond.selects RX0 yX0_count yX0_count, Cond.code yX0_count cX0_count 6 (some .int), Cond.methodLink RX0 16 yJ7_fill_53178, Cond.static yJ7_fill_53178, Cond.code yJ7_fill_53178 cJ7_fill_53178 4 none, Cond.methodLink RX0 35 yX0_paths, Cond.static yX0_paths, Cond.code yX0_paths cX0_paths 7 (some .int), Cond.methodLink RL 103 yX8_cycles, Cond.instanceMethod yX8_cycles, Cond.selects RX8 yX8_cycles yX8_cycles, Cond.code yX8_cycles cX8_cycles 4 (some .int), Cond.methodLink RL 104 yX7_light, Cond.instanceMethod yX7_light]
def wsL_law0_r21 : List Cond := [Cond.selects RX7 yX7_light yX7_light, Cond.code yX7_light cX7_light 12 (some .int), Cond.methodLink RX7 176 yX7_fillRings, Cond.instanceMethod yX7_fillRings, Cond.selects RX7 yX7_fillRings yX7_fillRings, Cond.code yX7_fillRings cX7_fillRings 5 (some .int), Cond.methodLink RX7 179 yJ6_numberOfTrailingZeros_0f7a4, Cond.methodLink RX7 185 yX2_gain, Cond.methodLink RL 107 yX8_light, Cond.instanceMethod yX8_light, Cond.selects RX8 yX8_light yX8_light, Cond.code yX8_light cX8_light 6 (some .int), Cond.methodLink RL 108 yL_add, Cond.static yL_add, Cond.codeWith yL_add cL_add 5 (some .int) [(0, 9, 12, 13), (0, 9, 16, 19)], Cond.methodLink RL 49 yX7_add, Cond.instanceMethod yX7_add, Cond.selects RX7 yX7_add yX7_add, Cond.code yX7_add cX7_add 3 (some .int), Cond.methodLink RX7 189 yX7_checkListed, Cond.instanceMethod yX7_checkListed, Cond.selects RX7 yX7_checkListed yX7_checkListed, Cond.code yX7_checkListed cX7_checkListed 3 none, Cond.methodLink RX7 197 yX5_append]
def wsL_law0_r22 : List Cond := [Cond.instanceMethod yX5_append, Cond.selects RX5 yX5_append yX5_append, Cond.code yX5_append cX5_append 5 (some .int), Cond.fieldLink RX5 25 "CycleHouse$SetList" "rank" "I", Cond.fieldLink RX5 29 "CycleHouse$SetList" "sets" "I", Cond.methodLink RX5 15 yX5_rest, Cond.instanceMethod yX5_rest, Cond.selects RX5 yX5_rest yX5_rest, Cond.code yX5_rest cX5_rest 6 (some .long), Cond.methodLink RX5 19 yJ13_numberOfTrailingZeros_95d88, Cond.methodLink RL 110 yX8_add, Cond.instanceMethod yX8_add, Cond.selects RX8 yX8_add yX8_add, Cond.code yX8_add cX8_add 3 (some .int), Cond.fieldLink RX8 143 "CycleHouseModel" "listed" "I", Cond.methodLink RL 111 yX7_clear, Cond.instanceMethod yX7_clear, Cond.selects RX7 yX7_clear yX7_clear, Cond.code yX7_clear cX7_clear 2 (some .int), Cond.methodLink RX7 199 yX5_empty, Cond.instanceMethod yX5_empty, Cond.selects RX5 yX5_empty yX5_empty, Cond.code yX5_empty cX5_empty 1 none, Cond.methodLink RX5 32 yJ7_fill_d0a16]
def wsL_law0_r23 : List Cond := [Cond.methodLink RL 114 yX8_clear, Cond.instanceMethod yX8_clear, Cond.selects RX8 yX8_clear yX8_clear, Cond.code yX8_clear cX8_clear 2 (some .int), Cond.methodLink RL 115 yL_spans, Cond.static yL_spans, Cond.codeWith yL_spans cL_spans 5 (some .int) [(0, 16, 19, 13)], Cond.methodLink RL 52 yX7_spans, Cond.instanceMethod yX7_spans, Cond.selects RX7 yX7_spans yX7_spans, Cond.code yX7_spans cX7_spans 3 (some .boolean), Cond.methodLink RX7 202 yX5_rest, Cond.methodLink RL 117 yX8_spans, Cond.instanceMethod yX8_spans, Cond.selects RX8 yX8_spans yX8_spans, Cond.code yX8_spans cX8_spans 3 (some .boolean), Cond.methodLink RX8 146 yX8_takeList, Cond.instanceMethod yX8_takeList, Cond.selects RX8 yX8_takeList yX8_takeList, Cond.code yX8_takeList cX8_takeList 3 none, Cond.methodLink RL 118 yL_look, Cond.static yL_look, Cond.codeWith yL_look cL_look 4 (some .int) [(0, 9, 12, 13)], Cond.methodLink RL 55 yX7_look]
def wsL_law0_r24 : List Cond := [Cond.instanceMethod yX7_look, Cond.selects RX7 yX7_look yX7_look, Cond.code yX7_look cX7_look 2 (some .int), Cond.methodLink RX7 208 yX7_countGroups, Cond.instanceMethod yX7_countGroups, Cond.selects RX7 yX7_countGroups yX7_countGroups, Cond.code yX7_countGroups cX7_countGroups 1 (some .int), Cond.methodLink RX7 211 yX7_countEdgesInNoCycle, Cond.instanceMethod yX7_countEdgesInNoCycle, Cond.selects RX7 yX7_countEdgesInNoCycle yX7_countEdgesInNoCycle, Cond.code yX7_countEdgesInNoCycle cX7_countEdgesInNoCycle 5 (some .int), Cond.methodLink RX7 246 yJ13_bitCount_95d88, Cond.methodLink RX7 214 yX7_hasOddCycle, Cond.instanceMethod yX7_hasOddCycle, Cond.selects RX7 yX7_hasOddCycle yX7_hasOddCycle, Cond.code yX7_hasOddCycle cX7_hasOddCycle 3 (some .boolean), Cond.methodLink RX7 221 yX7_countCuttingVertices, Cond.instanceMethod yX7_countCuttingVertices, Cond.selects RX7 yX7_countCuttingVertices yX7_countCuttingVertices, Cond.code yX7_countCuttingVertices cX7_countCuttingVertices 4 (some .int), Cond.methodLink RX7 251 yX2_edgesApartFrom, Cond.instanceMethod yX2_edgesApartFrom, Cond.selects RX2 yX2_edgesApartFrom yX2_edgesApartFrom, Cond.code yX2_edgesApartFrom cX2_edgesApartFrom 5 (some .long)]
def wsL_law0_r25 : List Cond := [Cond.methodLink RL 120 yX8_look, Cond.instanceMethod yX8_look, Cond.selects RX8 yX8_look yX8_look, Cond.code yX8_look cX8_look 2 (some .int), Cond.methodLink RX8 149 yX8_alone, Cond.instanceMethod yX8_alone, Cond.selects RX8 yX8_alone yX8_alone, Cond.code yX8_alone cX8_alone 6 (some .int), Cond.methodLink RX8 152 yX8_areEven, Cond.instanceMethod yX8_areEven, Cond.selects RX8 yX8_areEven yX8_areEven, Cond.code yX8_areEven cX8_areEven 6 (some .boolean), Cond.methodLink RX8 156 yX8_rank, Cond.instanceMethod yX8_rank, Cond.selects RX8 yX8_rank yX8_rank, Cond.code yX8_rank cX8_rank 1 (some .int), Cond.methodLink RX8 159 yX8_parting, Cond.instanceMethod yX8_parting, Cond.selects RX8 yX8_parting yX8_parting, Cond.code yX8_parting cX8_parting 6 (some .int)]
def wsL_law0 : List Cond := (wsL_law0_r1 ++ (wsL_law0_r2 ++ (wsL_law0_r3 ++ (wsL_law0_r4 ++ (wsL_law0_r5 ++ (wsL_law0_r6 ++ (wsL_law0_r7 ++ (wsL_law0_r8 ++ (wsL_law0_r9 ++ (wsL_law0_r10 ++ (wsL_law0_r11 ++ (wsL_law0_r12 ++ (wsL_law0_r13 ++ (wsL_law0_r14 ++ (wsL_law0_r15 ++ (wsL_law0_r16 ++ (wsL_law0_r17 ++ (wsL_law0_r18 ++ (wsL_law0_r19 ++ (wsL_law0_r20 ++ (wsL_law0_r21 ++ (wsL_law0_r22 ++ (wsL_law0_r23 ++ (wsL_law0_r24 ++ wsL_law0_r25)))))))))))))))))))))))) ++ wsX70 ++ wsX80 ++ wsX20 ++ wsX50 ++ wsX30 ++ wsX60 ++ wsX40 ++ wsX10 ++ wsX00 ++ ([] : List Cond)
def wsL_law : List Cond := wsL_law0 ++ (vx_atS RX7 66 "java/lang/IllegalArgumentException" ["java/lang/RuntimeException", "java/lang/Exception"]).filter goodWord ++ (vx_atS RX7 90 "java/lang/IllegalStateException" ["java/lang/RuntimeException", "java/lang/Exception"]).filter goodWord ++ (vx_atS RX7 140 "java/util/NoSuchElementException" ["java/lang/RuntimeException", "java/lang/Exception"]).filter goodWord
abbrev vwCl : List vw_C := [(RX0, TX0, 1), (RX1, TX1, 1), (RX2, TX2, 5), (RX3, TX3, 4), (RX4, TX4, 6), (RX5, TX5, 3), (RX6, TX6, 2), (RX7, TX7, 8), (RX8, TX8, 20)]
end
section
theorem dX0_init_0 : decode cX0_init 0 = .ok (.aload_n 0, 1) := by decide +kernel
theorem dX0_init_1 : decode cX0_init 1 = .ok (.invokespecial 3, 3) := by decide +kernel
theorem dX0_init_4 : decode cX0_init 4 = .ok (.aload_n 0, 1) := by decide +kernel
theorem dX0_init_5 : decode cX0_init 5 = .ok (.bipush 16, 2) := by decide +kernel
theorem dX0_init_7 : decode cX0_init 7 = .ok (.bipush 16, 2) := by decide +kernel
theorem dX0_init_9 : decode cX0_init 9 = .ok (.multianewarray 9 2, 4) := by decide +kernel
theorem dX0_init_13 : decode cX0_init 13 = .ok (.putfield 11, 3) := by decide +kernel
theorem dX0_init_16 : decode cX0_init 16 = .ok (.return_, 1) := by decide +kernel
set_option maxRecDepth 20000 in
theorem ggX0_count_J7_fill_53178 : GoodIn wsX0_count wsJ7_fill_53178 := goodIn_r _ [5] (by decide +kernel) (by decide +kernel)
set_option maxRecDepth 20000 in
theorem gX0_count_J7_fill_53178 : GoodIn wsX0_count (va_wsS RX0 16 yJ7_fill_53178 wsJ7_fill_53178) := goodIn_app (goodIn_of _ (by decide +kernel)) ggX0_count_J7_fill_53178
set_option maxRecDepth 20000 in
theorem ggX0_count_X0_paths : GoodIn wsX0_count wsX0_paths := goodIn_r _ [9, 6, 7, 8] (by decide +kernel) (by decide +kernel)
set_option maxRecDepth 20000 in
theorem gX0_count_X0_paths : GoodIn wsX0_count (va_wsS RX0 35 yX0_paths wsX0_paths) := goodIn_app (goodIn_of _ (by decide +kernel)) ggX0_count_X0_paths
theorem dX0_count_0 : decode cX0_count 0 = .ok (.iconst 0, 1) := by decide +kernel
theorem dX0_count_1 : decode cX0_count 1 = .ok (.istore_n 2, 1) := by decide +kernel
theorem dX0_count_2 : decode cX0_count 2 = .ok (.iload_n 2, 1) := by decide +kernel
theorem dX0_count_3 : decode cX0_count 3 = .ok (.bipush 16, 2) := by decide +kernel
theorem dX0_count_5 : decode cX0_count 5 = .ok (.if_icmp .ge 19, 3) := by decide +kernel
theorem dX0_count_8 : decode cX0_count 8 = .ok (.aload_n 0, 1) := by decide +kernel
theorem dX0_count_9 : decode cX0_count 9 = .ok (.getfield 11, 3) := by decide +kernel
theorem dX0_count_12 : decode cX0_count 12 = .ok (.iload_n 2, 1) := by decide +kernel
theorem dX0_count_13 : decode cX0_count 13 = .ok (.aaload, 1) := by decide +kernel
theorem dX0_count_14 : decode cX0_count 14 = .ok (.iconst 0, 1) := by decide +kernel
theorem dX0_count_15 : decode cX0_count 15 = .ok (.invokestatic 16, 3) := by decide +kernel
theorem dX0_count_18 : decode cX0_count 18 = .ok (.iinc 2 1, 3) := by decide +kernel
theorem dX0_count_21 : decode cX0_count 21 = .ok (.goto (-19), 3) := by decide +kernel
theorem dX0_count_24 : decode cX0_count 24 = .ok (.iconst 0, 1) := by decide +kernel
theorem dX0_count_25 : decode cX0_count 25 = .ok (.istore_n 2, 1) := by decide +kernel
theorem dX0_count_26 : decode cX0_count 26 = .ok (.iconst 0, 1) := by decide +kernel
theorem dX0_count_27 : decode cX0_count 27 = .ok (.istore_n 3, 1) := by decide +kernel
theorem dX0_count_28 : decode cX0_count 28 = .ok (.iload_n 3, 1) := by decide +kernel
theorem dX0_count_29 : decode cX0_count 29 = .ok (.aload_n 1, 1) := by decide +kernel
theorem dX0_count_30 : decode cX0_count 30 = .ok (.getfield 22, 3) := by decide +kernel
theorem dX0_count_33 : decode cX0_count 33 = .ok (.if_icmp .ge 79, 3) := by decide +kernel
theorem dX0_count_36 : decode cX0_count 36 = .ok (.aload_n 1, 1) := by decide +kernel
theorem dX0_count_37 : decode cX0_count 37 = .ok (.getfield 28, 3) := by decide +kernel
theorem dX0_count_40 : decode cX0_count 40 = .ok (.iload_n 3, 1) := by decide +kernel
theorem dX0_count_41 : decode cX0_count 41 = .ok (.iaload, 1) := by decide +kernel
theorem dX0_count_42 : decode cX0_count 42 = .ok (.istore 4, 2) := by decide +kernel
theorem dX0_count_44 : decode cX0_count 44 = .ok (.aload_n 1, 1) := by decide +kernel
theorem dX0_count_45 : decode cX0_count 45 = .ok (.getfield 32, 3) := by decide +kernel
theorem dX0_count_48 : decode cX0_count 48 = .ok (.iload_n 3, 1) := by decide +kernel
theorem dX0_count_49 : decode cX0_count 49 = .ok (.iaload, 1) := by decide +kernel
theorem dX0_count_50 : decode cX0_count 50 = .ok (.istore 5, 2) := by decide +kernel
theorem dX0_count_52 : decode cX0_count 52 = .ok (.iload_n 2, 1) := by decide +kernel
theorem dX0_count_53 : decode cX0_count 53 = .ok (.aload_n 0, 1) := by decide +kernel
theorem dX0_count_54 : decode cX0_count 54 = .ok (.getfield 11, 3) := by decide +kernel
theorem dX0_count_57 : decode cX0_count 57 = .ok (.iload 4, 2) := by decide +kernel
theorem dX0_count_59 : decode cX0_count 59 = .ok (.iload 5, 2) := by decide +kernel
theorem dX0_count_61 : decode cX0_count 61 = .ok (.iconst 1, 1) := by decide +kernel
theorem dX0_count_62 : decode cX0_count 62 = .ok (.iload 4, 2) := by decide +kernel
theorem dX0_count_64 : decode cX0_count 64 = .ok (.ishl, 1) := by decide +kernel
theorem dX0_count_65 : decode cX0_count 65 = .ok (.iconst 1, 1) := by decide +kernel
theorem dX0_count_66 : decode cX0_count 66 = .ok (.invokestatic 35, 3) := by decide +kernel
theorem dX0_count_69 : decode cX0_count 69 = .ok (.iadd, 1) := by decide +kernel
theorem dX0_count_70 : decode cX0_count 70 = .ok (.istore_n 2, 1) := by decide +kernel
theorem dX0_count_71 : decode cX0_count 71 = .ok (.aload_n 0, 1) := by decide +kernel
theorem dX0_count_72 : decode cX0_count 72 = .ok (.getfield 11, 3) := by decide +kernel
theorem dX0_count_75 : decode cX0_count 75 = .ok (.iload 4, 2) := by decide +kernel
theorem dX0_count_77 : decode cX0_count 77 = .ok (.aaload, 1) := by decide +kernel
theorem dX0_count_78 : decode cX0_count 78 = .ok (.iload 5, 2) := by decide +kernel
theorem dX0_count_80 : decode cX0_count 80 = .ok (.dup2, 1) := by decide +kernel
theorem dX0_count_81 : decode cX0_count 81 = .ok (.iaload, 1) := by decide +kernel
theorem dX0_count_82 : decode cX0_count 82 = .ok (.iconst 1, 1) := by decide +kernel
theorem dX0_count_83 : decode cX0_count 83 = .ok (.iadd, 1) := by decide +kernel
theorem dX0_count_84 : decode cX0_count 84 = .ok (.iastore, 1) := by decide +kernel
theorem dX0_count_85 : decode cX0_count 85 = .ok (.iload 4, 2) := by decide +kernel
theorem dX0_count_87 : decode cX0_count 87 = .ok (.iload 5, 2) := by decide +kernel
theorem dX0_count_89 : decode cX0_count 89 = .ok (.if_icmp .eq 17, 3) := by decide +kernel
theorem dX0_count_92 : decode cX0_count 92 = .ok (.aload_n 0, 1) := by decide +kernel
theorem dX0_count_93 : decode cX0_count 93 = .ok (.getfield 11, 3) := by decide +kernel
theorem dX0_count_96 : decode cX0_count 96 = .ok (.iload 5, 2) := by decide +kernel
theorem dX0_count_98 : decode cX0_count 98 = .ok (.aaload, 1) := by decide +kernel
theorem dX0_count_99 : decode cX0_count 99 = .ok (.iload 4, 2) := by decide +kernel
theorem dX0_count_101 : decode cX0_count 101 = .ok (.dup2, 1) := by decide +kernel
theorem dX0_count_102 : decode cX0_count 102 = .ok (.iaload, 1) := by decide +kernel
theorem dX0_count_103 : decode cX0_count 103 = .ok (.iconst 1, 1) := by decide +kernel
theorem dX0_count_104 : decode cX0_count 104 = .ok (.iadd, 1) := by decide +kernel
theorem dX0_count_105 : decode cX0_count 105 = .ok (.iastore, 1) := by decide +kernel
theorem dX0_count_106 : decode cX0_count 106 = .ok (.iinc 3 1, 3) := by decide +kernel
theorem dX0_count_109 : decode cX0_count 109 = .ok (.goto (-81), 3) := by decide +kernel
theorem dX0_count_112 : decode cX0_count 112 = .ok (.iload_n 2, 1) := by decide +kernel
theorem dX0_count_113 : decode cX0_count 113 = .ok (.ireturn, 1) := by decide +kernel
set_option maxRecDepth 20000 in
theorem ggX0_paths_X0_paths : GoodIn wsX0_paths wsX0_paths := goodIn_r _ [0, 1, 2, 3] (by decide +kernel) (by decide +kernel)
set_option maxRecDepth 20000 in
theorem gX0_paths_X0_paths : GoodIn wsX0_paths (va_wsS RX0 35 yX0_paths wsX0_paths) := goodIn_app (goodIn_of _ (by decide +kernel)) ggX0_paths_X0_paths
theorem dX0_paths_0 : decode cX0_paths 0 = .ok (.iload_n 1, 1) := by decide +kernel
theorem dX0_paths_1 : decode cX0_paths 1 = .ok (.iload_n 2, 1) := by decide +kernel
theorem dX0_paths_2 : decode cX0_paths 2 = .ok (.if_icmp .ne 5, 3) := by decide +kernel
theorem dX0_paths_5 : decode cX0_paths 5 = .ok (.iconst 1, 1) := by decide +kernel
theorem dX0_paths_6 : decode cX0_paths 6 = .ok (.ireturn, 1) := by decide +kernel
theorem dX0_paths_7 : decode cX0_paths 7 = .ok (.iload 4, 2) := by decide +kernel
theorem dX0_paths_9 : decode cX0_paths 9 = .ok (.bipush 16, 2) := by decide +kernel
theorem dX0_paths_11 : decode cX0_paths 11 = .ok (.if_icmp .lt 5, 3) := by decide +kernel
theorem dX0_paths_14 : decode cX0_paths 14 = .ok (.iconst 0, 1) := by decide +kernel
theorem dX0_paths_15 : decode cX0_paths 15 = .ok (.ireturn, 1) := by decide +kernel
theorem dX0_paths_16 : decode cX0_paths 16 = .ok (.iconst 0, 1) := by decide +kernel
theorem dX0_paths_17 : decode cX0_paths 17 = .ok (.istore 5, 2) := by decide +kernel
theorem dX0_paths_19 : decode cX0_paths 19 = .ok (.iconst 0, 1) := by decide +kernel
theorem dX0_paths_20 : decode cX0_paths 20 = .ok (.istore 6, 2) := by decide +kernel
theorem dX0_paths_22 : decode cX0_paths 22 = .ok (.iload 6, 2) := by decide +kernel
theorem dX0_paths_24 : decode cX0_paths 24 = .ok (.bipush 16, 2) := by decide +kernel
theorem dX0_paths_26 : decode cX0_paths 26 = .ok (.if_icmp .ge 56, 3) := by decide +kernel
theorem dX0_paths_29 : decode cX0_paths 29 = .ok (.aload_n 0, 1) := by decide +kernel
theorem dX0_paths_30 : decode cX0_paths 30 = .ok (.iload_n 1, 1) := by decide +kernel
theorem dX0_paths_31 : decode cX0_paths 31 = .ok (.aaload, 1) := by decide +kernel
theorem dX0_paths_32 : decode cX0_paths 32 = .ok (.iload 6, 2) := by decide +kernel
theorem dX0_paths_34 : decode cX0_paths 34 = .ok (.iaload, 1) := by decide +kernel
theorem dX0_paths_35 : decode cX0_paths 35 = .ok (.ifCond .eq 41, 3) := by decide +kernel
theorem dX0_paths_38 : decode cX0_paths 38 = .ok (.iload_n 3, 1) := by decide +kernel
theorem dX0_paths_39 : decode cX0_paths 39 = .ok (.iload 6, 2) := by decide +kernel
theorem dX0_paths_41 : decode cX0_paths 41 = .ok (.ishr, 1) := by decide +kernel
theorem dX0_paths_42 : decode cX0_paths 42 = .ok (.iconst 1, 1) := by decide +kernel
theorem dX0_paths_43 : decode cX0_paths 43 = .ok (.iand, 1) := by decide +kernel
theorem dX0_paths_44 : decode cX0_paths 44 = .ok (.ifCond .ne 32, 3) := by decide +kernel
theorem dX0_paths_47 : decode cX0_paths 47 = .ok (.iload 5, 2) := by decide +kernel
theorem dX0_paths_49 : decode cX0_paths 49 = .ok (.aload_n 0, 1) := by decide +kernel
theorem dX0_paths_50 : decode cX0_paths 50 = .ok (.iload_n 1, 1) := by decide +kernel
theorem dX0_paths_51 : decode cX0_paths 51 = .ok (.aaload, 1) := by decide +kernel
theorem dX0_paths_52 : decode cX0_paths 52 = .ok (.iload 6, 2) := by decide +kernel
theorem dX0_paths_54 : decode cX0_paths 54 = .ok (.iaload, 1) := by decide +kernel
theorem dX0_paths_55 : decode cX0_paths 55 = .ok (.aload_n 0, 1) := by decide +kernel
theorem dX0_paths_56 : decode cX0_paths 56 = .ok (.iload 6, 2) := by decide +kernel
theorem dX0_paths_58 : decode cX0_paths 58 = .ok (.iload_n 2, 1) := by decide +kernel
theorem dX0_paths_59 : decode cX0_paths 59 = .ok (.iload_n 3, 1) := by decide +kernel
theorem dX0_paths_60 : decode cX0_paths 60 = .ok (.iconst 1, 1) := by decide +kernel
theorem dX0_paths_61 : decode cX0_paths 61 = .ok (.iload 6, 2) := by decide +kernel
theorem dX0_paths_63 : decode cX0_paths 63 = .ok (.ishl, 1) := by decide +kernel
theorem dX0_paths_64 : decode cX0_paths 64 = .ok (.ior, 1) := by decide +kernel
theorem dX0_paths_65 : decode cX0_paths 65 = .ok (.iload 4, 2) := by decide +kernel
theorem dX0_paths_67 : decode cX0_paths 67 = .ok (.iconst 1, 1) := by decide +kernel
theorem dX0_paths_68 : decode cX0_paths 68 = .ok (.iadd, 1) := by decide +kernel
theorem dX0_paths_69 : decode cX0_paths 69 = .ok (.invokestatic 35, 3) := by decide +kernel
theorem dX0_paths_72 : decode cX0_paths 72 = .ok (.imul, 1) := by decide +kernel
theorem dX0_paths_73 : decode cX0_paths 73 = .ok (.iadd, 1) := by decide +kernel
theorem dX0_paths_74 : decode cX0_paths 74 = .ok (.istore 5, 2) := by decide +kernel
theorem dX0_paths_76 : decode cX0_paths 76 = .ok (.iinc 6 1, 3) := by decide +kernel
theorem dX0_paths_79 : decode cX0_paths 79 = .ok (.goto (-57), 3) := by decide +kernel
theorem dX0_paths_82 : decode cX0_paths 82 = .ok (.iload 5, 2) := by decide +kernel
theorem dX0_paths_84 : decode cX0_paths 84 = .ok (.ireturn, 1) := by decide +kernel
theorem dX1_init_0 : decode cX1_init 0 = .ok (.aload_n 0, 1) := by decide +kernel
theorem dX1_init_1 : decode cX1_init 1 = .ok (.invokespecial 3, 3) := by decide +kernel
theorem dX1_init_4 : decode cX1_init 4 = .ok (.aload_n 0, 1) := by decide +kernel
theorem dX1_init_5 : decode cX1_init 5 = .ok (.bipush 16, 2) := by decide +kernel
theorem dX1_init_7 : decode cX1_init 7 = .ok (.bipush 16, 2) := by decide +kernel
theorem dX1_init_9 : decode cX1_init 9 = .ok (.multianewarray 9 2, 4) := by decide +kernel
theorem dX1_init_13 : decode cX1_init 13 = .ok (.putfield 11, 3) := by decide +kernel
theorem dX1_init_16 : decode cX1_init 16 = .ok (.return_, 1) := by decide +kernel
set_option maxRecDepth 20000 in
theorem ggX1_count_J7_fill_d0a16 : GoodIn wsX1_count wsJ7_fill_d0a16 := goodIn_r _ [5] (by decide +kernel) (by decide +kernel)
set_option maxRecDepth 20000 in
theorem gX1_count_J7_fill_d0a16 : GoodIn wsX1_count (va_wsS RX1 22 yJ7_fill_d0a16 wsJ7_fill_d0a16) := goodIn_app (goodIn_of _ (by decide +kernel)) ggX1_count_J7_fill_d0a16
set_option maxRecDepth 20000 in
theorem ggX1_count_X1_determinant : GoodIn wsX1_count wsX1_determinant := goodIn_r _ [10, 1, 11, 12, 13, 9, 14, 20] (by decide +kernel) (by decide +kernel)
set_option maxRecDepth 20000 in
theorem gX1_count_X1_determinant : GoodIn wsX1_count (wsV RX1 43 RX1 yX1_determinant wsX1_determinant) := goodIn_app (goodIn_of _ (by decide +kernel)) ggX1_count_X1_determinant
theorem dX1_count_0 : decode cX1_count 0 = .ok (.iconst 0, 1) := by decide +kernel
theorem dX1_count_1 : decode cX1_count 1 = .ok (.istore_n 3, 1) := by decide +kernel
theorem dX1_count_2 : decode cX1_count 2 = .ok (.iload_n 3, 1) := by decide +kernel
theorem dX1_count_3 : decode cX1_count 3 = .ok (.aload_n 1, 1) := by decide +kernel
theorem dX1_count_4 : decode cX1_count 4 = .ok (.getfield 16, 3) := by decide +kernel
theorem dX1_count_7 : decode cX1_count 7 = .ok (.if_icmp .ge 19, 3) := by decide +kernel
theorem dX1_count_10 : decode cX1_count 10 = .ok (.aload_n 0, 1) := by decide +kernel
theorem dX1_count_11 : decode cX1_count 11 = .ok (.getfield 11, 3) := by decide +kernel
theorem dX1_count_14 : decode cX1_count 14 = .ok (.iload_n 3, 1) := by decide +kernel
theorem dX1_count_15 : decode cX1_count 15 = .ok (.aaload, 1) := by decide +kernel
theorem dX1_count_16 : decode cX1_count 16 = .ok (.lconst 0, 1) := by decide +kernel
theorem dX1_count_17 : decode cX1_count 17 = .ok (.invokestatic 22, 3) := by decide +kernel
theorem dX1_count_20 : decode cX1_count 20 = .ok (.iinc 3 1, 3) := by decide +kernel
theorem dX1_count_23 : decode cX1_count 23 = .ok (.goto (-21), 3) := by decide +kernel
theorem dX1_count_26 : decode cX1_count 26 = .ok (.iconst 0, 1) := by decide +kernel
theorem dX1_count_27 : decode cX1_count 27 = .ok (.istore_n 3, 1) := by decide +kernel
theorem dX1_count_28 : decode cX1_count 28 = .ok (.iload_n 3, 1) := by decide +kernel
theorem dX1_count_29 : decode cX1_count 29 = .ok (.aload_n 1, 1) := by decide +kernel
theorem dX1_count_30 : decode cX1_count 30 = .ok (.getfield 28, 3) := by decide +kernel
theorem dX1_count_33 : decode cX1_count 33 = .ok (.if_icmp .ge 98, 3) := by decide +kernel
theorem dX1_count_36 : decode cX1_count 36 = .ok (.aload_n 2, 1) := by decide +kernel
theorem dX1_count_37 : decode cX1_count 37 = .ok (.getfield 31, 3) := by decide +kernel
theorem dX1_count_40 : decode cX1_count 40 = .ok (.aload_n 1, 1) := by decide +kernel
theorem dX1_count_41 : decode cX1_count 41 = .ok (.getfield 37, 3) := by decide +kernel
theorem dX1_count_44 : decode cX1_count 44 = .ok (.iload_n 3, 1) := by decide +kernel
theorem dX1_count_45 : decode cX1_count 45 = .ok (.iaload, 1) := by decide +kernel
theorem dX1_count_46 : decode cX1_count 46 = .ok (.iaload, 1) := by decide +kernel
theorem dX1_count_47 : decode cX1_count 47 = .ok (.istore 4, 2) := by decide +kernel
theorem dX1_count_49 : decode cX1_count 49 = .ok (.aload_n 2, 1) := by decide +kernel
theorem dX1_count_50 : decode cX1_count 50 = .ok (.getfield 31, 3) := by decide +kernel
theorem dX1_count_53 : decode cX1_count 53 = .ok (.aload_n 1, 1) := by decide +kernel
theorem dX1_count_54 : decode cX1_count 54 = .ok (.getfield 40, 3) := by decide +kernel
theorem dX1_count_57 : decode cX1_count 57 = .ok (.iload_n 3, 1) := by decide +kernel
theorem dX1_count_58 : decode cX1_count 58 = .ok (.iaload, 1) := by decide +kernel
theorem dX1_count_59 : decode cX1_count 59 = .ok (.iaload, 1) := by decide +kernel
theorem dX1_count_60 : decode cX1_count 60 = .ok (.istore 5, 2) := by decide +kernel
theorem dX1_count_62 : decode cX1_count 62 = .ok (.iload 4, 2) := by decide +kernel
theorem dX1_count_64 : decode cX1_count 64 = .ok (.iload 5, 2) := by decide +kernel
theorem dX1_count_66 : decode cX1_count 66 = .ok (.if_icmp .eq 59, 3) := by decide +kernel
theorem dX1_count_69 : decode cX1_count 69 = .ok (.aload_n 0, 1) := by decide +kernel
theorem dX1_count_70 : decode cX1_count 70 = .ok (.getfield 11, 3) := by decide +kernel
theorem dX1_count_73 : decode cX1_count 73 = .ok (.iload 4, 2) := by decide +kernel
theorem dX1_count_75 : decode cX1_count 75 = .ok (.aaload, 1) := by decide +kernel
theorem dX1_count_76 : decode cX1_count 76 = .ok (.iload 4, 2) := by decide +kernel
theorem dX1_count_78 : decode cX1_count 78 = .ok (.dup2, 1) := by decide +kernel
theorem dX1_count_79 : decode cX1_count 79 = .ok (.laload, 1) := by decide +kernel
theorem dX1_count_80 : decode cX1_count 80 = .ok (.lconst 1, 1) := by decide +kernel
theorem dX1_count_81 : decode cX1_count 81 = .ok (.ladd, 1) := by decide +kernel
theorem dX1_count_82 : decode cX1_count 82 = .ok (.lastore, 1) := by decide +kernel
theorem dX1_count_83 : decode cX1_count 83 = .ok (.aload_n 0, 1) := by decide +kernel
theorem dX1_count_84 : decode cX1_count 84 = .ok (.getfield 11, 3) := by decide +kernel
theorem dX1_count_87 : decode cX1_count 87 = .ok (.iload 5, 2) := by decide +kernel
theorem dX1_count_89 : decode cX1_count 89 = .ok (.aaload, 1) := by decide +kernel
theorem dX1_count_90 : decode cX1_count 90 = .ok (.iload 5, 2) := by decide +kernel
theorem dX1_count_92 : decode cX1_count 92 = .ok (.dup2, 1) := by decide +kernel
theorem dX1_count_93 : decode cX1_count 93 = .ok (.laload, 1) := by decide +kernel
theorem dX1_count_94 : decode cX1_count 94 = .ok (.lconst 1, 1) := by decide +kernel
theorem dX1_count_95 : decode cX1_count 95 = .ok (.ladd, 1) := by decide +kernel
theorem dX1_count_96 : decode cX1_count 96 = .ok (.lastore, 1) := by decide +kernel
theorem dX1_count_97 : decode cX1_count 97 = .ok (.aload_n 0, 1) := by decide +kernel
theorem dX1_count_98 : decode cX1_count 98 = .ok (.getfield 11, 3) := by decide +kernel
theorem dX1_count_101 : decode cX1_count 101 = .ok (.iload 4, 2) := by decide +kernel
theorem dX1_count_103 : decode cX1_count 103 = .ok (.aaload, 1) := by decide +kernel
theorem dX1_count_104 : decode cX1_count 104 = .ok (.iload 5, 2) := by decide +kernel
theorem dX1_count_106 : decode cX1_count 106 = .ok (.dup2, 1) := by decide +kernel
theorem dX1_count_107 : decode cX1_count 107 = .ok (.laload, 1) := by decide +kernel
theorem dX1_count_108 : decode cX1_count 108 = .ok (.lconst 1, 1) := by decide +kernel
theorem dX1_count_109 : decode cX1_count 109 = .ok (.lsub, 1) := by decide +kernel
theorem dX1_count_110 : decode cX1_count 110 = .ok (.lastore, 1) := by decide +kernel
theorem dX1_count_111 : decode cX1_count 111 = .ok (.aload_n 0, 1) := by decide +kernel
theorem dX1_count_112 : decode cX1_count 112 = .ok (.getfield 11, 3) := by decide +kernel
theorem dX1_count_115 : decode cX1_count 115 = .ok (.iload 5, 2) := by decide +kernel
theorem dX1_count_117 : decode cX1_count 117 = .ok (.aaload, 1) := by decide +kernel
theorem dX1_count_118 : decode cX1_count 118 = .ok (.iload 4, 2) := by decide +kernel
theorem dX1_count_120 : decode cX1_count 120 = .ok (.dup2, 1) := by decide +kernel
theorem dX1_count_121 : decode cX1_count 121 = .ok (.laload, 1) := by decide +kernel
theorem dX1_count_122 : decode cX1_count 122 = .ok (.lconst 1, 1) := by decide +kernel
theorem dX1_count_123 : decode cX1_count 123 = .ok (.lsub, 1) := by decide +kernel
theorem dX1_count_124 : decode cX1_count 124 = .ok (.lastore, 1) := by decide +kernel
theorem dX1_count_125 : decode cX1_count 125 = .ok (.iinc 3 1, 3) := by decide +kernel
theorem dX1_count_128 : decode cX1_count 128 = .ok (.goto (-100), 3) := by decide +kernel
theorem dX1_count_131 : decode cX1_count 131 = .ok (.aload_n 0, 1) := by decide +kernel
theorem dX1_count_132 : decode cX1_count 132 = .ok (.aload_n 1, 1) := by decide +kernel
theorem dX1_count_133 : decode cX1_count 133 = .ok (.getfield 16, 3) := by decide +kernel
theorem dX1_count_136 : decode cX1_count 136 = .ok (.invokevirtual 43, 3) := by decide +kernel
theorem dX1_count_139 : decode cX1_count 139 = .ok (.lreturn, 1) := by decide +kernel
set_option maxRecDepth 20000 in
theorem ggX1_determinant_X1_eliminate : GoodIn wsX1_determinant wsX1_eliminate := goodIn_r _ [6, 1, 7] (by decide +kernel) (by decide +kernel)
set_option maxRecDepth 20000 in
theorem gX1_determinant_X1_eliminate : GoodIn wsX1_determinant (wsV RX1 47 RX1 yX1_eliminate wsX1_eliminate) := goodIn_app (goodIn_of _ (by decide +kernel)) ggX1_determinant_X1_eliminate
theorem dX1_determinant_0 : decode cX1_determinant 0 = .ok (.lconst 1, 1) := by decide +kernel
theorem dX1_determinant_1 : decode cX1_determinant 1 = .ok (.lstore_n 2, 1) := by decide +kernel
theorem dX1_determinant_2 : decode cX1_determinant 2 = .ok (.iconst 0, 1) := by decide +kernel
theorem dX1_determinant_3 : decode cX1_determinant 3 = .ok (.istore 4, 2) := by decide +kernel
theorem dX1_determinant_5 : decode cX1_determinant 5 = .ok (.iload 4, 2) := by decide +kernel
theorem dX1_determinant_7 : decode cX1_determinant 7 = .ok (.iload_n 1, 1) := by decide +kernel
theorem dX1_determinant_8 : decode cX1_determinant 8 = .ok (.if_icmp .ge 39, 3) := by decide +kernel
theorem dX1_determinant_11 : decode cX1_determinant 11 = .ok (.aload_n 0, 1) := by decide +kernel
theorem dX1_determinant_12 : decode cX1_determinant 12 = .ok (.getfield 11, 3) := by decide +kernel
theorem dX1_determinant_15 : decode cX1_determinant 15 = .ok (.iload 4, 2) := by decide +kernel
theorem dX1_determinant_17 : decode cX1_determinant 17 = .ok (.aaload, 1) := by decide +kernel
theorem dX1_determinant_18 : decode cX1_determinant 18 = .ok (.iload 4, 2) := by decide +kernel
theorem dX1_determinant_20 : decode cX1_determinant 20 = .ok (.laload, 1) := by decide +kernel
theorem dX1_determinant_21 : decode cX1_determinant 21 = .ok (.lstore 5, 2) := by decide +kernel
theorem dX1_determinant_23 : decode cX1_determinant 23 = .ok (.lload 5, 2) := by decide +kernel
theorem dX1_determinant_25 : decode cX1_determinant 25 = .ok (.lconst 0, 1) := by decide +kernel
theorem dX1_determinant_26 : decode cX1_determinant 26 = .ok (.lcmp, 1) := by decide +kernel
theorem dX1_determinant_27 : decode cX1_determinant 27 = .ok (.ifCond .eq 14, 3) := by decide +kernel
theorem dX1_determinant_30 : decode cX1_determinant 30 = .ok (.aload_n 0, 1) := by decide +kernel
theorem dX1_determinant_31 : decode cX1_determinant 31 = .ok (.iload 4, 2) := by decide +kernel
theorem dX1_determinant_33 : decode cX1_determinant 33 = .ok (.iload_n 1, 1) := by decide +kernel
theorem dX1_determinant_34 : decode cX1_determinant 34 = .ok (.lload_n 2, 1) := by decide +kernel
theorem dX1_determinant_35 : decode cX1_determinant 35 = .ok (.invokevirtual 47, 3) := by decide +kernel
theorem dX1_determinant_38 : decode cX1_determinant 38 = .ok (.lload 5, 2) := by decide +kernel
theorem dX1_determinant_40 : decode cX1_determinant 40 = .ok (.lstore_n 2, 1) := by decide +kernel
theorem dX1_determinant_41 : decode cX1_determinant 41 = .ok (.iinc 4 1, 3) := by decide +kernel
theorem dX1_determinant_44 : decode cX1_determinant 44 = .ok (.goto (-39), 3) := by decide +kernel
theorem dX1_determinant_47 : decode cX1_determinant 47 = .ok (.lload_n 2, 1) := by decide +kernel
theorem dX1_determinant_48 : decode cX1_determinant 48 = .ok (.lreturn, 1) := by decide +kernel
theorem dX1_eliminate_0 : decode cX1_eliminate 0 = .ok (.lload_n 3, 1) := by decide +kernel
theorem dX1_eliminate_1 : decode cX1_eliminate 1 = .ok (.lconst 0, 1) := by decide +kernel
theorem dX1_eliminate_2 : decode cX1_eliminate 2 = .ok (.lcmp, 1) := by decide +kernel
theorem dX1_eliminate_3 : decode cX1_eliminate 3 = .ok (.ifCond .ne 4, 3) := by decide +kernel
theorem dX1_eliminate_6 : decode cX1_eliminate 6 = .ok (.return_, 1) := by decide +kernel
theorem dX1_eliminate_7 : decode cX1_eliminate 7 = .ok (.iload_n 1, 1) := by decide +kernel
theorem dX1_eliminate_8 : decode cX1_eliminate 8 = .ok (.iconst 1, 1) := by decide +kernel
theorem dX1_eliminate_9 : decode cX1_eliminate 9 = .ok (.iadd, 1) := by decide +kernel
theorem dX1_eliminate_10 : decode cX1_eliminate 10 = .ok (.istore 5, 2) := by decide +kernel
theorem dX1_eliminate_12 : decode cX1_eliminate 12 = .ok (.iload 5, 2) := by decide +kernel
theorem dX1_eliminate_14 : decode cX1_eliminate 14 = .ok (.iload_n 2, 1) := by decide +kernel
theorem dX1_eliminate_15 : decode cX1_eliminate 15 = .ok (.if_icmp .ge 77, 3) := by decide +kernel
theorem dX1_eliminate_18 : decode cX1_eliminate 18 = .ok (.iload_n 1, 1) := by decide +kernel
theorem dX1_eliminate_19 : decode cX1_eliminate 19 = .ok (.iconst 1, 1) := by decide +kernel
theorem dX1_eliminate_20 : decode cX1_eliminate 20 = .ok (.iadd, 1) := by decide +kernel
theorem dX1_eliminate_21 : decode cX1_eliminate 21 = .ok (.istore 6, 2) := by decide +kernel
theorem dX1_eliminate_23 : decode cX1_eliminate 23 = .ok (.iload 6, 2) := by decide +kernel
theorem dX1_eliminate_25 : decode cX1_eliminate 25 = .ok (.iload_n 2, 1) := by decide +kernel
theorem dX1_eliminate_26 : decode cX1_eliminate 26 = .ok (.if_icmp .ge 60, 3) := by decide +kernel
theorem dX1_eliminate_29 : decode cX1_eliminate 29 = .ok (.aload_n 0, 1) := by decide +kernel
theorem dX1_eliminate_30 : decode cX1_eliminate 30 = .ok (.getfield 11, 3) := by decide +kernel
theorem dX1_eliminate_33 : decode cX1_eliminate 33 = .ok (.iload 5, 2) := by decide +kernel
theorem dX1_eliminate_35 : decode cX1_eliminate 35 = .ok (.aaload, 1) := by decide +kernel
theorem dX1_eliminate_36 : decode cX1_eliminate 36 = .ok (.iload 6, 2) := by decide +kernel
theorem dX1_eliminate_38 : decode cX1_eliminate 38 = .ok (.aload_n 0, 1) := by decide +kernel
theorem dX1_eliminate_39 : decode cX1_eliminate 39 = .ok (.getfield 11, 3) := by decide +kernel
theorem dX1_eliminate_42 : decode cX1_eliminate 42 = .ok (.iload 5, 2) := by decide +kernel
theorem dX1_eliminate_44 : decode cX1_eliminate 44 = .ok (.aaload, 1) := by decide +kernel
theorem dX1_eliminate_45 : decode cX1_eliminate 45 = .ok (.iload 6, 2) := by decide +kernel
theorem dX1_eliminate_47 : decode cX1_eliminate 47 = .ok (.laload, 1) := by decide +kernel
theorem dX1_eliminate_48 : decode cX1_eliminate 48 = .ok (.aload_n 0, 1) := by decide +kernel
theorem dX1_eliminate_49 : decode cX1_eliminate 49 = .ok (.getfield 11, 3) := by decide +kernel
theorem dX1_eliminate_52 : decode cX1_eliminate 52 = .ok (.iload_n 1, 1) := by decide +kernel
theorem dX1_eliminate_53 : decode cX1_eliminate 53 = .ok (.aaload, 1) := by decide +kernel
theorem dX1_eliminate_54 : decode cX1_eliminate 54 = .ok (.iload_n 1, 1) := by decide +kernel
theorem dX1_eliminate_55 : decode cX1_eliminate 55 = .ok (.laload, 1) := by decide +kernel
theorem dX1_eliminate_56 : decode cX1_eliminate 56 = .ok (.lmul, 1) := by decide +kernel
theorem dX1_eliminate_57 : decode cX1_eliminate 57 = .ok (.aload_n 0, 1) := by decide +kernel
theorem dX1_eliminate_58 : decode cX1_eliminate 58 = .ok (.getfield 11, 3) := by decide +kernel
theorem dX1_eliminate_61 : decode cX1_eliminate 61 = .ok (.iload 5, 2) := by decide +kernel
theorem dX1_eliminate_63 : decode cX1_eliminate 63 = .ok (.aaload, 1) := by decide +kernel
theorem dX1_eliminate_64 : decode cX1_eliminate 64 = .ok (.iload_n 1, 1) := by decide +kernel
theorem dX1_eliminate_65 : decode cX1_eliminate 65 = .ok (.laload, 1) := by decide +kernel
theorem dX1_eliminate_66 : decode cX1_eliminate 66 = .ok (.aload_n 0, 1) := by decide +kernel
theorem dX1_eliminate_67 : decode cX1_eliminate 67 = .ok (.getfield 11, 3) := by decide +kernel
theorem dX1_eliminate_70 : decode cX1_eliminate 70 = .ok (.iload_n 1, 1) := by decide +kernel
theorem dX1_eliminate_71 : decode cX1_eliminate 71 = .ok (.aaload, 1) := by decide +kernel
theorem dX1_eliminate_72 : decode cX1_eliminate 72 = .ok (.iload 6, 2) := by decide +kernel
theorem dX1_eliminate_74 : decode cX1_eliminate 74 = .ok (.laload, 1) := by decide +kernel
theorem dX1_eliminate_75 : decode cX1_eliminate 75 = .ok (.lmul, 1) := by decide +kernel
theorem dX1_eliminate_76 : decode cX1_eliminate 76 = .ok (.lsub, 1) := by decide +kernel
theorem dX1_eliminate_77 : decode cX1_eliminate 77 = .ok (.lload_n 3, 1) := by decide +kernel
theorem dX1_eliminate_78 : decode cX1_eliminate 78 = .ok (.ldiv, 1) := by decide +kernel
theorem dX1_eliminate_79 : decode cX1_eliminate 79 = .ok (.lastore, 1) := by decide +kernel
theorem dX1_eliminate_80 : decode cX1_eliminate 80 = .ok (.iinc 6 1, 3) := by decide +kernel
theorem dX1_eliminate_83 : decode cX1_eliminate 83 = .ok (.goto (-60), 3) := by decide +kernel
theorem dX1_eliminate_86 : decode cX1_eliminate 86 = .ok (.iinc 5 1, 3) := by decide +kernel
theorem dX1_eliminate_89 : decode cX1_eliminate 89 = .ok (.goto (-77), 3) := by decide +kernel
theorem dX1_eliminate_92 : decode cX1_eliminate 92 = .ok (.return_, 1) := by decide +kernel
theorem dX2_init_0 : decode cX2_init 0 = .ok (.aload_n 0, 1) := by decide +kernel
theorem dX2_init_1 : decode cX2_init 1 = .ok (.invokespecial 3, 3) := by decide +kernel
theorem dX2_init_4 : decode cX2_init 4 = .ok (.aload_n 0, 1) := by decide +kernel
theorem dX2_init_5 : decode cX2_init 5 = .ok (.iconst 1, 1) := by decide +kernel
theorem dX2_init_6 : decode cX2_init 6 = .ok (.putfield 9, 3) := by decide +kernel
theorem dX2_init_9 : decode cX2_init 9 = .ok (.aload_n 0, 1) := by decide +kernel
theorem dX2_init_10 : decode cX2_init 10 = .ok (.bipush 40, 2) := by decide +kernel
theorem dX2_init_12 : decode cX2_init 12 = .ok (.newarray .int, 2) := by decide +kernel
theorem dX2_init_14 : decode cX2_init 14 = .ok (.putfield 15, 3) := by decide +kernel
theorem dX2_init_17 : decode cX2_init 17 = .ok (.aload_n 0, 1) := by decide +kernel
theorem dX2_init_18 : decode cX2_init 18 = .ok (.bipush 40, 2) := by decide +kernel
theorem dX2_init_20 : decode cX2_init 20 = .ok (.newarray .int, 2) := by decide +kernel
theorem dX2_init_22 : decode cX2_init 22 = .ok (.putfield 19, 3) := by decide +kernel
theorem dX2_init_25 : decode cX2_init 25 = .ok (.aload_n 0, 1) := by decide +kernel
theorem dX2_init_26 : decode cX2_init 26 = .ok (.bipush 40, 2) := by decide +kernel
theorem dX2_init_28 : decode cX2_init 28 = .ok (.newarray .int, 2) := by decide +kernel
theorem dX2_init_30 : decode cX2_init 30 = .ok (.putfield 22, 3) := by decide +kernel
theorem dX2_init_33 : decode cX2_init 33 = .ok (.return_, 1) := by decide +kernel
theorem dX2_begin_0 : decode cX2_begin 0 = .ok (.aload_n 0, 1) := by decide +kernel
theorem dX2_begin_1 : decode cX2_begin 1 = .ok (.iload_n 1, 1) := by decide +kernel
theorem dX2_begin_2 : decode cX2_begin 2 = .ok (.putfield 9, 3) := by decide +kernel
theorem dX2_begin_5 : decode cX2_begin 5 = .ok (.aload_n 0, 1) := by decide +kernel
theorem dX2_begin_6 : decode cX2_begin 6 = .ok (.iconst 0, 1) := by decide +kernel
theorem dX2_begin_7 : decode cX2_begin 7 = .ok (.putfield 25, 3) := by decide +kernel
theorem dX2_begin_10 : decode cX2_begin 10 = .ok (.return_, 1) := by decide +kernel
theorem dX2_hasVertex_0 : decode cX2_hasVertex 0 = .ok (.iload_n 1, 1) := by decide +kernel
theorem dX2_hasVertex_1 : decode cX2_hasVertex 1 = .ok (.ifCond .lt 15, 3) := by decide +kernel
theorem dX2_hasVertex_4 : decode cX2_hasVertex 4 = .ok (.iload_n 1, 1) := by decide +kernel
theorem dX2_hasVertex_5 : decode cX2_hasVertex 5 = .ok (.aload_n 0, 1) := by decide +kernel
theorem dX2_hasVertex_6 : decode cX2_hasVertex 6 = .ok (.getfield 9, 3) := by decide +kernel
theorem dX2_hasVertex_9 : decode cX2_hasVertex 9 = .ok (.if_icmp .ge 7, 3) := by decide +kernel
theorem dX2_hasVertex_12 : decode cX2_hasVertex 12 = .ok (.iconst 1, 1) := by decide +kernel
theorem dX2_hasVertex_13 : decode cX2_hasVertex 13 = .ok (.goto 4, 3) := by decide +kernel
theorem dX2_hasVertex_16 : decode cX2_hasVertex 16 = .ok (.iconst 0, 1) := by decide +kernel
theorem dX2_hasVertex_17 : decode cX2_hasVertex 17 = .ok (.ireturn, 1) := by decide +kernel
theorem dX2_append_0 : decode cX2_append 0 = .ok (.aload_n 0, 1) := by decide +kernel
theorem dX2_append_1 : decode cX2_append 1 = .ok (.getfield 25, 3) := by decide +kernel
theorem dX2_append_4 : decode cX2_append 4 = .ok (.istore 4, 2) := by decide +kernel
theorem dX2_append_6 : decode cX2_append 6 = .ok (.aload_n 0, 1) := by decide +kernel
theorem dX2_append_7 : decode cX2_append 7 = .ok (.getfield 15, 3) := by decide +kernel
theorem dX2_append_10 : decode cX2_append 10 = .ok (.iload 4, 2) := by decide +kernel
theorem dX2_append_12 : decode cX2_append 12 = .ok (.iload_n 1, 1) := by decide +kernel
theorem dX2_append_13 : decode cX2_append 13 = .ok (.iastore, 1) := by decide +kernel
theorem dX2_append_14 : decode cX2_append 14 = .ok (.aload_n 0, 1) := by decide +kernel
theorem dX2_append_15 : decode cX2_append 15 = .ok (.getfield 19, 3) := by decide +kernel
theorem dX2_append_18 : decode cX2_append 18 = .ok (.iload 4, 2) := by decide +kernel
theorem dX2_append_20 : decode cX2_append 20 = .ok (.iload_n 2, 1) := by decide +kernel
theorem dX2_append_21 : decode cX2_append 21 = .ok (.iastore, 1) := by decide +kernel
theorem dX2_append_22 : decode cX2_append 22 = .ok (.aload_n 0, 1) := by decide +kernel
theorem dX2_append_23 : decode cX2_append 23 = .ok (.getfield 22, 3) := by decide +kernel
theorem dX2_append_26 : decode cX2_append 26 = .ok (.iload 4, 2) := by decide +kernel
theorem dX2_append_28 : decode cX2_append 28 = .ok (.iload_n 3, 1) := by decide +kernel
theorem dX2_append_29 : decode cX2_append 29 = .ok (.iastore, 1) := by decide +kernel
theorem dX2_append_30 : decode cX2_append 30 = .ok (.aload_n 0, 1) := by decide +kernel
theorem dX2_append_31 : decode cX2_append 31 = .ok (.dup, 1) := by decide +kernel
theorem dX2_append_32 : decode cX2_append 32 = .ok (.getfield 25, 3) := by decide +kernel
theorem dX2_append_35 : decode cX2_append 35 = .ok (.iconst 1, 1) := by decide +kernel
theorem dX2_append_36 : decode cX2_append 36 = .ok (.iadd, 1) := by decide +kernel
theorem dX2_append_37 : decode cX2_append 37 = .ok (.putfield 25, 3) := by decide +kernel
theorem dX2_append_40 : decode cX2_append 40 = .ok (.iload 4, 2) := by decide +kernel
theorem dX2_append_42 : decode cX2_append 42 = .ok (.ireturn, 1) := by decide +kernel
theorem dX2_removeLast_0 : decode cX2_removeLast 0 = .ok (.aload_n 0, 1) := by decide +kernel
theorem dX2_removeLast_1 : decode cX2_removeLast 1 = .ok (.dup, 1) := by decide +kernel
theorem dX2_removeLast_2 : decode cX2_removeLast 2 = .ok (.getfield 25, 3) := by decide +kernel
theorem dX2_removeLast_5 : decode cX2_removeLast 5 = .ok (.iconst 1, 1) := by decide +kernel
theorem dX2_removeLast_6 : decode cX2_removeLast 6 = .ok (.isub, 1) := by decide +kernel
theorem dX2_removeLast_7 : decode cX2_removeLast 7 = .ok (.putfield 25, 3) := by decide +kernel
theorem dX2_removeLast_10 : decode cX2_removeLast 10 = .ok (.aload_n 0, 1) := by decide +kernel
theorem dX2_removeLast_11 : decode cX2_removeLast 11 = .ok (.getfield 25, 3) := by decide +kernel
theorem dX2_removeLast_14 : decode cX2_removeLast 14 = .ok (.ireturn, 1) := by decide +kernel
set_option maxRecDepth 20000 in
theorem ggX2_isEven_X7_has : GoodIn wsX2_isEven wsX7_has := goodIn_r _ [6] (by decide +kernel) (by decide +kernel)
set_option maxRecDepth 20000 in
theorem gX2_isEven_X7_has_n28 : GoodIn wsX2_isEven (wsX7_has) := ggX2_isEven_X7_has
theorem dX2_isEven_0 : decode cX2_isEven 0 = .ok (.iconst 0, 1) := by decide +kernel
theorem dX2_isEven_1 : decode cX2_isEven 1 = .ok (.istore_n 3, 1) := by decide +kernel
theorem dX2_isEven_2 : decode cX2_isEven 2 = .ok (.iconst 0, 1) := by decide +kernel
theorem dX2_isEven_3 : decode cX2_isEven 3 = .ok (.istore 4, 2) := by decide +kernel
theorem dX2_isEven_5 : decode cX2_isEven 5 = .ok (.iload 4, 2) := by decide +kernel
theorem dX2_isEven_7 : decode cX2_isEven 7 = .ok (.aload_n 0, 1) := by decide +kernel
theorem dX2_isEven_8 : decode cX2_isEven 8 = .ok (.getfield 25, 3) := by decide +kernel
theorem dX2_isEven_11 : decode cX2_isEven 11 = .ok (.if_icmp .ge 42, 3) := by decide +kernel
theorem dX2_isEven_14 : decode cX2_isEven 14 = .ok (.lload_n 1, 1) := by decide +kernel
theorem dX2_isEven_15 : decode cX2_isEven 15 = .ok (.iload 4, 2) := by decide +kernel
theorem dX2_isEven_17 : decode cX2_isEven 17 = .ok (.invokestatic 28, 3) := by decide +kernel
theorem dX2_isEven_20 : decode cX2_isEven 20 = .ok (.ifCond .eq 27, 3) := by decide +kernel
theorem dX2_isEven_23 : decode cX2_isEven 23 = .ok (.iload_n 3, 1) := by decide +kernel
theorem dX2_isEven_24 : decode cX2_isEven 24 = .ok (.iconst 1, 1) := by decide +kernel
theorem dX2_isEven_25 : decode cX2_isEven 25 = .ok (.aload_n 0, 1) := by decide +kernel
theorem dX2_isEven_26 : decode cX2_isEven 26 = .ok (.getfield 15, 3) := by decide +kernel
theorem dX2_isEven_29 : decode cX2_isEven 29 = .ok (.iload 4, 2) := by decide +kernel
theorem dX2_isEven_31 : decode cX2_isEven 31 = .ok (.iaload, 1) := by decide +kernel
theorem dX2_isEven_32 : decode cX2_isEven 32 = .ok (.ishl, 1) := by decide +kernel
theorem dX2_isEven_33 : decode cX2_isEven 33 = .ok (.ixor, 1) := by decide +kernel
theorem dX2_isEven_34 : decode cX2_isEven 34 = .ok (.istore_n 3, 1) := by decide +kernel
theorem dX2_isEven_35 : decode cX2_isEven 35 = .ok (.iload_n 3, 1) := by decide +kernel
theorem dX2_isEven_36 : decode cX2_isEven 36 = .ok (.iconst 1, 1) := by decide +kernel
theorem dX2_isEven_37 : decode cX2_isEven 37 = .ok (.aload_n 0, 1) := by decide +kernel
theorem dX2_isEven_38 : decode cX2_isEven 38 = .ok (.getfield 19, 3) := by decide +kernel
theorem dX2_isEven_41 : decode cX2_isEven 41 = .ok (.iload 4, 2) := by decide +kernel
theorem dX2_isEven_43 : decode cX2_isEven 43 = .ok (.iaload, 1) := by decide +kernel
theorem dX2_isEven_44 : decode cX2_isEven 44 = .ok (.ishl, 1) := by decide +kernel
theorem dX2_isEven_45 : decode cX2_isEven 45 = .ok (.ixor, 1) := by decide +kernel
theorem dX2_isEven_46 : decode cX2_isEven 46 = .ok (.istore_n 3, 1) := by decide +kernel
theorem dX2_isEven_47 : decode cX2_isEven 47 = .ok (.iinc 4 1, 3) := by decide +kernel
theorem dX2_isEven_50 : decode cX2_isEven 50 = .ok (.goto (-45), 3) := by decide +kernel
theorem dX2_isEven_53 : decode cX2_isEven 53 = .ok (.iload_n 3, 1) := by decide +kernel
theorem dX2_isEven_54 : decode cX2_isEven 54 = .ok (.ifCond .ne 7, 3) := by decide +kernel
theorem dX2_isEven_57 : decode cX2_isEven 57 = .ok (.iconst 1, 1) := by decide +kernel
theorem dX2_isEven_58 : decode cX2_isEven 58 = .ok (.goto 4, 3) := by decide +kernel
theorem dX2_isEven_61 : decode cX2_isEven 61 = .ok (.iconst 0, 1) := by decide +kernel
theorem dX2_isEven_62 : decode cX2_isEven 62 = .ok (.ireturn, 1) := by decide +kernel
set_option maxRecDepth 20000 in
theorem ggX2_weigh_X2_gain : GoodIn wsX2_weigh wsX2_gain := goodIn_r _ [5, 6, 7, 8, 9, 10, 11, 12, 13, 14, 15, 16, 17, 18, 19, 20, 21, 22, 23, 24, 25, 26, 27, 28, 29] (by decide +kernel) (by decide +kernel)
set_option maxRecDepth 20000 in
theorem gX2_weigh_X2_gain : GoodIn wsX2_weigh (wsV RX2 32 RX2 yX2_gain wsX2_gain) := goodIn_app (goodIn_of _ (by decide +kernel)) ggX2_weigh_X2_gain
theorem dX2_weigh_0 : decode cX2_weigh 0 = .ok (.aload_n 0, 1) := by decide +kernel
theorem dX2_weigh_1 : decode cX2_weigh 1 = .ok (.lload_n 1, 1) := by decide +kernel
theorem dX2_weigh_2 : decode cX2_weigh 2 = .ok (.lload_n 1, 1) := by decide +kernel
theorem dX2_weigh_3 : decode cX2_weigh 3 = .ok (.invokevirtual 32, 3) := by decide +kernel
theorem dX2_weigh_6 : decode cX2_weigh 6 = .ok (.lreturn, 1) := by decide +kernel
set_option maxRecDepth 20000 in
theorem ggX2_gain_J13_bitCount_95d88 : GoodIn wsX2_gain wsJ13_bitCount_95d88 := goodIn_r _ [5, 6, 7, 8] (by decide +kernel) (by decide +kernel)
set_option maxRecDepth 20000 in
theorem gX2_gain_J13_bitCount_95d88 : GoodIn wsX2_gain (va_wsS RX2 36 yJ13_bitCount_95d88 wsJ13_bitCount_95d88) := goodIn_app (goodIn_of _ (by decide +kernel)) ggX2_gain_J13_bitCount_95d88
set_option maxRecDepth 20000 in
theorem ggX2_gain_J13_numberOfTrailingZeros_95d88 : GoodIn wsX2_gain wsJ13_numberOfTrailingZeros_95d88 := goodIn_r _ [11, 12, 13, 14, 15, 16] (by decide +kernel) (by decide +kernel)
set_option maxRecDepth 20000 in
theorem gX2_gain_J13_numberOfTrailingZeros_95d88 : GoodIn wsX2_gain (va_wsS RX2 42 yJ13_numberOfTrailingZeros_95d88 wsJ13_numberOfTrailingZeros_95d88) := goodIn_app (goodIn_of _ (by decide +kernel)) ggX2_gain_J13_numberOfTrailingZeros_95d88
set_option maxRecDepth 20000 in
theorem ggX2_gain_X7_has : GoodIn wsX2_gain wsX7_has := goodIn_r _ [19] (by decide +kernel) (by decide +kernel)
set_option maxRecDepth 20000 in
theorem gX2_gain_X7_has_n28 : GoodIn wsX2_gain (wsX7_has) := ggX2_gain_X7_has
theorem dX2_gain_0 : decode cX2_gain 0 = .ok (.lconst 0, 1) := by decide +kernel
theorem dX2_gain_1 : decode cX2_gain 1 = .ok (.lstore 5, 2) := by decide +kernel
theorem dX2_gain_3 : decode cX2_gain 3 = .ok (.lload_n 1, 1) := by decide +kernel
theorem dX2_gain_4 : decode cX2_gain 4 = .ok (.lstore 7, 2) := by decide +kernel
theorem dX2_gain_6 : decode cX2_gain 6 = .ok (.lload_n 1, 1) := by decide +kernel
theorem dX2_gain_7 : decode cX2_gain 7 = .ok (.invokestatic 36, 3) := by decide +kernel
theorem dX2_gain_10 : decode cX2_gain 10 = .ok (.istore 9, 2) := by decide +kernel
theorem dX2_gain_12 : decode cX2_gain 12 = .ok (.iload 9, 2) := by decide +kernel
theorem dX2_gain_14 : decode cX2_gain 14 = .ok (.ifCond .le 59, 3) := by decide +kernel
theorem dX2_gain_17 : decode cX2_gain 17 = .ok (.lload 7, 2) := by decide +kernel
theorem dX2_gain_19 : decode cX2_gain 19 = .ok (.invokestatic 42, 3) := by decide +kernel
theorem dX2_gain_22 : decode cX2_gain 22 = .ok (.istore 10, 2) := by decide +kernel
theorem dX2_gain_24 : decode cX2_gain 24 = .ok (.lload 5, 2) := by decide +kernel
theorem dX2_gain_26 : decode cX2_gain 26 = .ok (.lload_n 3, 1) := by decide +kernel
theorem dX2_gain_27 : decode cX2_gain 27 = .ok (.iload 10, 2) := by decide +kernel
theorem dX2_gain_29 : decode cX2_gain 29 = .ok (.invokestatic 28, 3) := by decide +kernel
theorem dX2_gain_32 : decode cX2_gain 32 = .ok (.ifCond .eq 14, 3) := by decide +kernel
theorem dX2_gain_35 : decode cX2_gain 35 = .ok (.aload_n 0, 1) := by decide +kernel
theorem dX2_gain_36 : decode cX2_gain 36 = .ok (.getfield 22, 3) := by decide +kernel
theorem dX2_gain_39 : decode cX2_gain 39 = .ok (.iload 10, 2) := by decide +kernel
theorem dX2_gain_41 : decode cX2_gain 41 = .ok (.iaload, 1) := by decide +kernel
theorem dX2_gain_42 : decode cX2_gain 42 = .ok (.i2l, 1) := by decide +kernel
theorem dX2_gain_43 : decode cX2_gain 43 = .ok (.goto 12, 3) := by decide +kernel
theorem dX2_gain_46 : decode cX2_gain 46 = .ok (.aload_n 0, 1) := by decide +kernel
theorem dX2_gain_47 : decode cX2_gain 47 = .ok (.getfield 22, 3) := by decide +kernel
theorem dX2_gain_50 : decode cX2_gain 50 = .ok (.iload 10, 2) := by decide +kernel
theorem dX2_gain_52 : decode cX2_gain 52 = .ok (.iaload, 1) := by decide +kernel
theorem dX2_gain_53 : decode cX2_gain 53 = .ok (.ineg, 1) := by decide +kernel
theorem dX2_gain_54 : decode cX2_gain 54 = .ok (.i2l, 1) := by decide +kernel
theorem dX2_gain_55 : decode cX2_gain 55 = .ok (.ladd, 1) := by decide +kernel
theorem dX2_gain_56 : decode cX2_gain 56 = .ok (.lstore 5, 2) := by decide +kernel
theorem dX2_gain_58 : decode cX2_gain 58 = .ok (.lload 7, 2) := by decide +kernel
theorem dX2_gain_60 : decode cX2_gain 60 = .ok (.lload 7, 2) := by decide +kernel
theorem dX2_gain_62 : decode cX2_gain 62 = .ok (.lconst 1, 1) := by decide +kernel
theorem dX2_gain_63 : decode cX2_gain 63 = .ok (.lsub, 1) := by decide +kernel
theorem dX2_gain_64 : decode cX2_gain 64 = .ok (.land, 1) := by decide +kernel
theorem dX2_gain_65 : decode cX2_gain 65 = .ok (.lstore 7, 2) := by decide +kernel
theorem dX2_gain_67 : decode cX2_gain 67 = .ok (.iinc 9 (-1), 3) := by decide +kernel
theorem dX2_gain_70 : decode cX2_gain 70 = .ok (.goto (-58), 3) := by decide +kernel
theorem dX2_gain_73 : decode cX2_gain 73 = .ok (.lload 5, 2) := by decide +kernel
theorem dX2_gain_75 : decode cX2_gain 75 = .ok (.lreturn, 1) := by decide +kernel
theorem dX2_edgesApartFrom_0 : decode cX2_edgesApartFrom 0 = .ok (.lconst 0, 1) := by decide +kernel
theorem dX2_edgesApartFrom_1 : decode cX2_edgesApartFrom 1 = .ok (.lstore_n 2, 1) := by decide +kernel
theorem dX2_edgesApartFrom_2 : decode cX2_edgesApartFrom 2 = .ok (.iconst 0, 1) := by decide +kernel
theorem dX2_edgesApartFrom_3 : decode cX2_edgesApartFrom 3 = .ok (.istore 4, 2) := by decide +kernel
theorem dX2_edgesApartFrom_5 : decode cX2_edgesApartFrom 5 = .ok (.iload 4, 2) := by decide +kernel
theorem dX2_edgesApartFrom_7 : decode cX2_edgesApartFrom 7 = .ok (.aload_n 0, 1) := by decide +kernel
theorem dX2_edgesApartFrom_8 : decode cX2_edgesApartFrom 8 = .ok (.getfield 25, 3) := by decide +kernel
theorem dX2_edgesApartFrom_11 : decode cX2_edgesApartFrom 11 = .ok (.if_icmp .ge 38, 3) := by decide +kernel
theorem dX2_edgesApartFrom_14 : decode cX2_edgesApartFrom 14 = .ok (.aload_n 0, 1) := by decide +kernel
theorem dX2_edgesApartFrom_15 : decode cX2_edgesApartFrom 15 = .ok (.getfield 15, 3) := by decide +kernel
theorem dX2_edgesApartFrom_18 : decode cX2_edgesApartFrom 18 = .ok (.iload 4, 2) := by decide +kernel
theorem dX2_edgesApartFrom_20 : decode cX2_edgesApartFrom 20 = .ok (.iaload, 1) := by decide +kernel
theorem dX2_edgesApartFrom_21 : decode cX2_edgesApartFrom 21 = .ok (.iload_n 1, 1) := by decide +kernel
theorem dX2_edgesApartFrom_22 : decode cX2_edgesApartFrom 22 = .ok (.if_icmp .eq 21, 3) := by decide +kernel
theorem dX2_edgesApartFrom_25 : decode cX2_edgesApartFrom 25 = .ok (.aload_n 0, 1) := by decide +kernel
theorem dX2_edgesApartFrom_26 : decode cX2_edgesApartFrom 26 = .ok (.getfield 19, 3) := by decide +kernel
theorem dX2_edgesApartFrom_29 : decode cX2_edgesApartFrom 29 = .ok (.iload 4, 2) := by decide +kernel
theorem dX2_edgesApartFrom_31 : decode cX2_edgesApartFrom 31 = .ok (.iaload, 1) := by decide +kernel
theorem dX2_edgesApartFrom_32 : decode cX2_edgesApartFrom 32 = .ok (.iload_n 1, 1) := by decide +kernel
theorem dX2_edgesApartFrom_33 : decode cX2_edgesApartFrom 33 = .ok (.if_icmp .eq 10, 3) := by decide +kernel
theorem dX2_edgesApartFrom_36 : decode cX2_edgesApartFrom 36 = .ok (.lload_n 2, 1) := by decide +kernel
theorem dX2_edgesApartFrom_37 : decode cX2_edgesApartFrom 37 = .ok (.lconst 1, 1) := by decide +kernel
theorem dX2_edgesApartFrom_38 : decode cX2_edgesApartFrom 38 = .ok (.iload 4, 2) := by decide +kernel
theorem dX2_edgesApartFrom_40 : decode cX2_edgesApartFrom 40 = .ok (.lshl, 1) := by decide +kernel
theorem dX2_edgesApartFrom_41 : decode cX2_edgesApartFrom 41 = .ok (.lor, 1) := by decide +kernel
theorem dX2_edgesApartFrom_42 : decode cX2_edgesApartFrom 42 = .ok (.lstore_n 2, 1) := by decide +kernel
theorem dX2_edgesApartFrom_43 : decode cX2_edgesApartFrom 43 = .ok (.iinc 4 1, 3) := by decide +kernel
theorem dX2_edgesApartFrom_46 : decode cX2_edgesApartFrom 46 = .ok (.goto (-41), 3) := by decide +kernel
theorem dX2_edgesApartFrom_49 : decode cX2_edgesApartFrom 49 = .ok (.lload_n 2, 1) := by decide +kernel
theorem dX2_edgesApartFrom_50 : decode cX2_edgesApartFrom 50 = .ok (.lreturn, 1) := by decide +kernel
theorem dX3_init_0 : decode cX3_init 0 = .ok (.aload_n 0, 1) := by decide +kernel
theorem dX3_init_1 : decode cX3_init 1 = .ok (.invokespecial 3, 3) := by decide +kernel
theorem dX3_init_4 : decode cX3_init 4 = .ok (.aload_n 0, 1) := by decide +kernel
theorem dX3_init_5 : decode cX3_init 5 = .ok (.bipush 16, 2) := by decide +kernel
theorem dX3_init_7 : decode cX3_init 7 = .ok (.newarray .int, 2) := by decide +kernel
theorem dX3_init_9 : decode cX3_init 9 = .ok (.putfield 9, 3) := by decide +kernel
theorem dX3_init_12 : decode cX3_init 12 = .ok (.aload_n 0, 1) := by decide +kernel
theorem dX3_init_13 : decode cX3_init 13 = .ok (.bipush 16, 2) := by decide +kernel
theorem dX3_init_15 : decode cX3_init 15 = .ok (.newarray .long, 2) := by decide +kernel
theorem dX3_init_17 : decode cX3_init 17 = .ok (.putfield 15, 3) := by decide +kernel
theorem dX3_init_20 : decode cX3_init 20 = .ok (.return_, 1) := by decide +kernel
theorem dX3_part_0 : decode cX3_part 0 = .ok (.aload_n 0, 1) := by decide +kernel
theorem dX3_part_1 : decode cX3_part 1 = .ok (.iload_n 1, 1) := by decide +kernel
theorem dX3_part_2 : decode cX3_part 2 = .ok (.putfield 19, 3) := by decide +kernel
theorem dX3_part_5 : decode cX3_part 5 = .ok (.aload_n 0, 1) := by decide +kernel
theorem dX3_part_6 : decode cX3_part 6 = .ok (.iload_n 1, 1) := by decide +kernel
theorem dX3_part_7 : decode cX3_part 7 = .ok (.putfield 23, 3) := by decide +kernel
theorem dX3_part_10 : decode cX3_part 10 = .ok (.iconst 0, 1) := by decide +kernel
theorem dX3_part_11 : decode cX3_part 11 = .ok (.istore_n 2, 1) := by decide +kernel
theorem dX3_part_12 : decode cX3_part 12 = .ok (.iload_n 2, 1) := by decide +kernel
theorem dX3_part_13 : decode cX3_part 13 = .ok (.iload_n 1, 1) := by decide +kernel
theorem dX3_part_14 : decode cX3_part 14 = .ok (.if_icmp .ge 23, 3) := by decide +kernel
theorem dX3_part_17 : decode cX3_part 17 = .ok (.aload_n 0, 1) := by decide +kernel
theorem dX3_part_18 : decode cX3_part 18 = .ok (.getfield 9, 3) := by decide +kernel
theorem dX3_part_21 : decode cX3_part 21 = .ok (.iload_n 2, 1) := by decide +kernel
theorem dX3_part_22 : decode cX3_part 22 = .ok (.iload_n 2, 1) := by decide +kernel
theorem dX3_part_23 : decode cX3_part 23 = .ok (.iastore, 1) := by decide +kernel
theorem dX3_part_24 : decode cX3_part 24 = .ok (.aload_n 0, 1) := by decide +kernel
theorem dX3_part_25 : decode cX3_part 25 = .ok (.getfield 15, 3) := by decide +kernel
theorem dX3_part_28 : decode cX3_part 28 = .ok (.iload_n 2, 1) := by decide +kernel
theorem dX3_part_29 : decode cX3_part 29 = .ok (.lconst 0, 1) := by decide +kernel
theorem dX3_part_30 : decode cX3_part 30 = .ok (.lastore, 1) := by decide +kernel
theorem dX3_part_31 : decode cX3_part 31 = .ok (.iinc 2 1, 3) := by decide +kernel
theorem dX3_part_34 : decode cX3_part 34 = .ok (.goto (-22), 3) := by decide +kernel
theorem dX3_part_37 : decode cX3_part 37 = .ok (.return_, 1) := by decide +kernel
theorem dX3_together_0 : decode cX3_together 0 = .ok (.aload_n 0, 1) := by decide +kernel
theorem dX3_together_1 : decode cX3_together 1 = .ok (.getfield 9, 3) := by decide +kernel
theorem dX3_together_4 : decode cX3_together 4 = .ok (.iload_n 1, 1) := by decide +kernel
theorem dX3_together_5 : decode cX3_together 5 = .ok (.iaload, 1) := by decide +kernel
theorem dX3_together_6 : decode cX3_together 6 = .ok (.aload_n 0, 1) := by decide +kernel
theorem dX3_together_7 : decode cX3_together 7 = .ok (.getfield 9, 3) := by decide +kernel
theorem dX3_together_10 : decode cX3_together 10 = .ok (.iload_n 2, 1) := by decide +kernel
theorem dX3_together_11 : decode cX3_together 11 = .ok (.iaload, 1) := by decide +kernel
theorem dX3_together_12 : decode cX3_together 12 = .ok (.if_icmp .ne 7, 3) := by decide +kernel
theorem dX3_together_15 : decode cX3_together 15 = .ok (.iconst 1, 1) := by decide +kernel
theorem dX3_together_16 : decode cX3_together 16 = .ok (.goto 4, 3) := by decide +kernel
theorem dX3_together_19 : decode cX3_together 19 = .ok (.iconst 0, 1) := by decide +kernel
theorem dX3_together_20 : decode cX3_together 20 = .ok (.ireturn, 1) := by decide +kernel
set_option maxRecDepth 20000 in
theorem ggX3_join_X3_together : GoodIn wsX3_join wsX3_together := goodIn_r _ [7, 2, 19, 20, 21, 22] (by decide +kernel) (by decide +kernel)
set_option maxRecDepth 20000 in
theorem gX3_join_X3_together : GoodIn wsX3_join (wsV RX3 34 RX3 yX3_together wsX3_together) := goodIn_app (goodIn_of _ (by decide +kernel)) ggX3_join_X3_together
set_option maxRecDepth 20000 in
theorem ggX3_join_X3_merge : GoodIn wsX3_join wsX3_merge := goodIn_r _ [11, 12, 2, 1, 13, 19, 20, 21, 22] (by decide +kernel) (by decide +kernel)
set_option maxRecDepth 20000 in
theorem gX3_join_X3_merge : GoodIn wsX3_join (wsV RX3 38 RX3 yX3_merge wsX3_merge) := goodIn_app (goodIn_of _ (by decide +kernel)) ggX3_join_X3_merge
theorem dX3_join_0 : decode cX3_join 0 = .ok (.aload_n 1, 1) := by decide +kernel
theorem dX3_join_1 : decode cX3_join 1 = .ok (.getfield 26, 3) := by decide +kernel
theorem dX3_join_4 : decode cX3_join 4 = .ok (.iload_n 2, 1) := by decide +kernel
theorem dX3_join_5 : decode cX3_join 5 = .ok (.iaload, 1) := by decide +kernel
theorem dX3_join_6 : decode cX3_join 6 = .ok (.istore_n 3, 1) := by decide +kernel
theorem dX3_join_7 : decode cX3_join 7 = .ok (.aload_n 1, 1) := by decide +kernel
theorem dX3_join_8 : decode cX3_join 8 = .ok (.getfield 31, 3) := by decide +kernel
theorem dX3_join_11 : decode cX3_join 11 = .ok (.iload_n 2, 1) := by decide +kernel
theorem dX3_join_12 : decode cX3_join 12 = .ok (.iaload, 1) := by decide +kernel
theorem dX3_join_13 : decode cX3_join 13 = .ok (.istore 4, 2) := by decide +kernel
theorem dX3_join_15 : decode cX3_join 15 = .ok (.aload_n 0, 1) := by decide +kernel
theorem dX3_join_16 : decode cX3_join 16 = .ok (.getfield 15, 3) := by decide +kernel
theorem dX3_join_19 : decode cX3_join 19 = .ok (.iload_n 3, 1) := by decide +kernel
theorem dX3_join_20 : decode cX3_join 20 = .ok (.laload, 1) := by decide +kernel
theorem dX3_join_21 : decode cX3_join 21 = .ok (.aload_n 0, 1) := by decide +kernel
theorem dX3_join_22 : decode cX3_join 22 = .ok (.getfield 15, 3) := by decide +kernel
theorem dX3_join_25 : decode cX3_join 25 = .ok (.iload 4, 2) := by decide +kernel
theorem dX3_join_27 : decode cX3_join 27 = .ok (.laload, 1) := by decide +kernel
theorem dX3_join_28 : decode cX3_join 28 = .ok (.lxor, 1) := by decide +kernel
theorem dX3_join_29 : decode cX3_join 29 = .ok (.lconst 1, 1) := by decide +kernel
theorem dX3_join_30 : decode cX3_join 30 = .ok (.iload_n 2, 1) := by decide +kernel
theorem dX3_join_31 : decode cX3_join 31 = .ok (.lshl, 1) := by decide +kernel
theorem dX3_join_32 : decode cX3_join 32 = .ok (.lxor, 1) := by decide +kernel
theorem dX3_join_33 : decode cX3_join 33 = .ok (.lstore 5, 2) := by decide +kernel
theorem dX3_join_35 : decode cX3_join 35 = .ok (.aload_n 0, 1) := by decide +kernel
theorem dX3_join_36 : decode cX3_join 36 = .ok (.iload_n 3, 1) := by decide +kernel
theorem dX3_join_37 : decode cX3_join 37 = .ok (.iload 4, 2) := by decide +kernel
theorem dX3_join_39 : decode cX3_join 39 = .ok (.invokevirtual 34, 3) := by decide +kernel
theorem dX3_join_42 : decode cX3_join 42 = .ok (.ifCond .eq 6, 3) := by decide +kernel
theorem dX3_join_45 : decode cX3_join 45 = .ok (.lload 5, 2) := by decide +kernel
theorem dX3_join_47 : decode cX3_join 47 = .ok (.lreturn, 1) := by decide +kernel
theorem dX3_join_48 : decode cX3_join 48 = .ok (.aload_n 0, 1) := by decide +kernel
theorem dX3_join_49 : decode cX3_join 49 = .ok (.aload_n 0, 1) := by decide +kernel
theorem dX3_join_50 : decode cX3_join 50 = .ok (.getfield 9, 3) := by decide +kernel
theorem dX3_join_53 : decode cX3_join 53 = .ok (.iload_n 3, 1) := by decide +kernel
theorem dX3_join_54 : decode cX3_join 54 = .ok (.iaload, 1) := by decide +kernel
theorem dX3_join_55 : decode cX3_join 55 = .ok (.aload_n 0, 1) := by decide +kernel
theorem dX3_join_56 : decode cX3_join 56 = .ok (.getfield 9, 3) := by decide +kernel
theorem dX3_join_59 : decode cX3_join 59 = .ok (.iload 4, 2) := by decide +kernel
theorem dX3_join_61 : decode cX3_join 61 = .ok (.iaload, 1) := by decide +kernel
theorem dX3_join_62 : decode cX3_join 62 = .ok (.lload 5, 2) := by decide +kernel
theorem dX3_join_64 : decode cX3_join 64 = .ok (.invokevirtual 38, 3) := by decide +kernel
theorem dX3_join_67 : decode cX3_join 67 = .ok (.lconst 0, 1) := by decide +kernel
theorem dX3_join_68 : decode cX3_join 68 = .ok (.lreturn, 1) := by decide +kernel
theorem dX3_merge_0 : decode cX3_merge 0 = .ok (.iconst 0, 1) := by decide +kernel
theorem dX3_merge_1 : decode cX3_merge 1 = .ok (.istore 5, 2) := by decide +kernel
theorem dX3_merge_3 : decode cX3_merge 3 = .ok (.iload 5, 2) := by decide +kernel
theorem dX3_merge_5 : decode cX3_merge 5 = .ok (.aload_n 0, 1) := by decide +kernel
theorem dX3_merge_6 : decode cX3_merge 6 = .ok (.getfield 19, 3) := by decide +kernel
theorem dX3_merge_9 : decode cX3_merge 9 = .ok (.if_icmp .ge 39, 3) := by decide +kernel
theorem dX3_merge_12 : decode cX3_merge 12 = .ok (.aload_n 0, 1) := by decide +kernel
theorem dX3_merge_13 : decode cX3_merge 13 = .ok (.getfield 9, 3) := by decide +kernel
theorem dX3_merge_16 : decode cX3_merge 16 = .ok (.iload 5, 2) := by decide +kernel
theorem dX3_merge_18 : decode cX3_merge 18 = .ok (.iaload, 1) := by decide +kernel
theorem dX3_merge_19 : decode cX3_merge 19 = .ok (.iload_n 2, 1) := by decide +kernel
theorem dX3_merge_20 : decode cX3_merge 20 = .ok (.if_icmp .ne 22, 3) := by decide +kernel
theorem dX3_merge_23 : decode cX3_merge 23 = .ok (.aload_n 0, 1) := by decide +kernel
theorem dX3_merge_24 : decode cX3_merge 24 = .ok (.getfield 9, 3) := by decide +kernel
theorem dX3_merge_27 : decode cX3_merge 27 = .ok (.iload 5, 2) := by decide +kernel
theorem dX3_merge_29 : decode cX3_merge 29 = .ok (.iload_n 1, 1) := by decide +kernel
theorem dX3_merge_30 : decode cX3_merge 30 = .ok (.iastore, 1) := by decide +kernel
theorem dX3_merge_31 : decode cX3_merge 31 = .ok (.aload_n 0, 1) := by decide +kernel
theorem dX3_merge_32 : decode cX3_merge 32 = .ok (.getfield 15, 3) := by decide +kernel
theorem dX3_merge_35 : decode cX3_merge 35 = .ok (.iload 5, 2) := by decide +kernel
theorem dX3_merge_37 : decode cX3_merge 37 = .ok (.dup2, 1) := by decide +kernel
theorem dX3_merge_38 : decode cX3_merge 38 = .ok (.laload, 1) := by decide +kernel
theorem dX3_merge_39 : decode cX3_merge 39 = .ok (.lload_n 3, 1) := by decide +kernel
theorem dX3_merge_40 : decode cX3_merge 40 = .ok (.lxor, 1) := by decide +kernel
theorem dX3_merge_41 : decode cX3_merge 41 = .ok (.lastore, 1) := by decide +kernel
theorem dX3_merge_42 : decode cX3_merge 42 = .ok (.iinc 5 1, 3) := by decide +kernel
theorem dX3_merge_45 : decode cX3_merge 45 = .ok (.goto (-42), 3) := by decide +kernel
theorem dX3_merge_48 : decode cX3_merge 48 = .ok (.aload_n 0, 1) := by decide +kernel
theorem dX3_merge_49 : decode cX3_merge 49 = .ok (.dup, 1) := by decide +kernel
theorem dX3_merge_50 : decode cX3_merge 50 = .ok (.getfield 23, 3) := by decide +kernel
theorem dX3_merge_53 : decode cX3_merge 53 = .ok (.iconst 1, 1) := by decide +kernel
theorem dX3_merge_54 : decode cX3_merge 54 = .ok (.isub, 1) := by decide +kernel
theorem dX3_merge_55 : decode cX3_merge 55 = .ok (.putfield 23, 3) := by decide +kernel
theorem dX3_merge_58 : decode cX3_merge 58 = .ok (.return_, 1) := by decide +kernel
theorem dX4_init_0 : decode cX4_init 0 = .ok (.aload_n 0, 1) := by decide +kernel
theorem dX4_init_1 : decode cX4_init 1 = .ok (.invokespecial 3, 3) := by decide +kernel
theorem dX4_init_4 : decode cX4_init 4 = .ok (.aload_n 0, 1) := by decide +kernel
theorem dX4_init_5 : decode cX4_init 5 = .ok (.bipush 14, 2) := by decide +kernel
theorem dX4_init_7 : decode cX4_init 7 = .ok (.newarray .long, 2) := by decide +kernel
theorem dX4_init_9 : decode cX4_init 9 = .ok (.putfield 9, 3) := by decide +kernel
theorem dX4_init_12 : decode cX4_init 12 = .ok (.aload_n 0, 1) := by decide +kernel
theorem dX4_init_13 : decode cX4_init 13 = .ok (.bipush 14, 2) := by decide +kernel
theorem dX4_init_15 : decode cX4_init 15 = .ok (.newarray .long, 2) := by decide +kernel
theorem dX4_init_17 : decode cX4_init 17 = .ok (.putfield 15, 3) := by decide +kernel
theorem dX4_init_20 : decode cX4_init 20 = .ok (.aload_n 0, 1) := by decide +kernel
theorem dX4_init_21 : decode cX4_init 21 = .ok (.sipush 640, 3) := by decide +kernel
theorem dX4_init_24 : decode cX4_init 24 = .ok (.newarray .long, 2) := by decide +kernel
theorem dX4_init_26 : decode cX4_init 26 = .ok (.putfield 18, 3) := by decide +kernel
theorem dX4_init_29 : decode cX4_init 29 = .ok (.aload_n 0, 1) := by decide +kernel
theorem dX4_init_30 : decode cX4_init 30 = .ok (.sipush 640, 3) := by decide +kernel
theorem dX4_init_33 : decode cX4_init 33 = .ok (.newarray .long, 2) := by decide +kernel
theorem dX4_init_35 : decode cX4_init 35 = .ok (.putfield 21, 3) := by decide +kernel
theorem dX4_init_38 : decode cX4_init 38 = .ok (.return_, 1) := by decide +kernel
set_option maxRecDepth 20000 in
theorem ggX4_find_X4_gatherAll : GoodIn wsX4_find wsX4_gatherAll := goodIn_r _ [10, 11, 12, 13, 14, 15, 16, 17, 18, 19, 20, 21, 22, 23, 24, 25, 26, 27, 28, 29, 30, 9, 31, 3, 5, 32, 33, 34, 35, 47, 48, 49, 50, 51, 52, 53, 54, 55, 56, 57, 58, 59] (by decide +kernel) (by decide +kernel)
set_option maxRecDepth 20000 in
theorem gX4_find_X4_gatherAll : GoodIn wsX4_find (wsV RX4 24 RX4 yX4_gatherAll wsX4_gatherAll) := goodIn_app (goodIn_of _ (by decide +kernel)) ggX4_find_X4_gatherAll
set_option maxRecDepth 20000 in
theorem ggX4_find_X4_lightestLeft : GoodIn wsX4_find wsX4_lightestLeft := goodIn_r _ [39, 11, 3, 5, 47, 48, 49, 50, 51, 52] (by decide +kernel) (by decide +kernel)
set_option maxRecDepth 20000 in
theorem gX4_find_X4_lightestLeft : GoodIn wsX4_find (wsV RX4 32 RX4 yX4_lightestLeft wsX4_lightestLeft) := goodIn_app (goodIn_of _ (by decide +kernel)) ggX4_find_X4_lightestLeft
set_option maxRecDepth 20000 in
theorem ggX4_find_X4_strike : GoodIn wsX4_find wsX4_strike := goodIn_r _ [43, 11, 3, 44, 45, 9, 46, 47, 48, 49, 50, 51, 52] (by decide +kernel) (by decide +kernel)
set_option maxRecDepth 20000 in
theorem gX4_find_X4_strike : GoodIn wsX4_find (wsV RX4 36 RX4 yX4_strike wsX4_strike) := goodIn_app (goodIn_of _ (by decide +kernel)) ggX4_find_X4_strike
theorem dX4_find_0 : decode cX4_find 0 = .ok (.aload_n 0, 1) := by decide +kernel
theorem dX4_find_1 : decode cX4_find 1 = .ok (.aload_n 1, 1) := by decide +kernel
theorem dX4_find_2 : decode cX4_find 2 = .ok (.aload_n 2, 1) := by decide +kernel
theorem dX4_find_3 : decode cX4_find 3 = .ok (.invokevirtual 24, 3) := by decide +kernel
theorem dX4_find_6 : decode cX4_find 6 = .ok (.aload_n 0, 1) := by decide +kernel
theorem dX4_find_7 : decode cX4_find 7 = .ok (.iconst 0, 1) := by decide +kernel
theorem dX4_find_8 : decode cX4_find 8 = .ok (.putfield 28, 3) := by decide +kernel
theorem dX4_find_11 : decode cX4_find 11 = .ok (.aload_n 0, 1) := by decide +kernel
theorem dX4_find_12 : decode cX4_find 12 = .ok (.getfield 28, 3) := by decide +kernel
theorem dX4_find_15 : decode cX4_find 15 = .ok (.bipush 14, 2) := by decide +kernel
theorem dX4_find_17 : decode cX4_find 17 = .ok (.if_icmp .ge 67, 3) := by decide +kernel
theorem dX4_find_20 : decode cX4_find 20 = .ok (.aload_n 0, 1) := by decide +kernel
theorem dX4_find_21 : decode cX4_find 21 = .ok (.invokevirtual 32, 3) := by decide +kernel
theorem dX4_find_24 : decode cX4_find 24 = .ok (.istore_n 3, 1) := by decide +kernel
theorem dX4_find_25 : decode cX4_find 25 = .ok (.iload_n 3, 1) := by decide +kernel
theorem dX4_find_26 : decode cX4_find 26 = .ok (.iconst (-1), 1) := by decide +kernel
theorem dX4_find_27 : decode cX4_find 27 = .ok (.if_icmp .ne 4, 3) := by decide +kernel
theorem dX4_find_30 : decode cX4_find 30 = .ok (.return_, 1) := by decide +kernel
theorem dX4_find_31 : decode cX4_find 31 = .ok (.aload_n 0, 1) := by decide +kernel
theorem dX4_find_32 : decode cX4_find 32 = .ok (.getfield 9, 3) := by decide +kernel
theorem dX4_find_35 : decode cX4_find 35 = .ok (.aload_n 0, 1) := by decide +kernel
theorem dX4_find_36 : decode cX4_find 36 = .ok (.getfield 28, 3) := by decide +kernel
theorem dX4_find_39 : decode cX4_find 39 = .ok (.aload_n 0, 1) := by decide +kernel
theorem dX4_find_40 : decode cX4_find 40 = .ok (.getfield 18, 3) := by decide +kernel
theorem dX4_find_43 : decode cX4_find 43 = .ok (.iload_n 3, 1) := by decide +kernel
theorem dX4_find_44 : decode cX4_find 44 = .ok (.laload, 1) := by decide +kernel
theorem dX4_find_45 : decode cX4_find 45 = .ok (.lastore, 1) := by decide +kernel
theorem dX4_find_46 : decode cX4_find 46 = .ok (.aload_n 0, 1) := by decide +kernel
theorem dX4_find_47 : decode cX4_find 47 = .ok (.getfield 15, 3) := by decide +kernel
theorem dX4_find_50 : decode cX4_find 50 = .ok (.aload_n 0, 1) := by decide +kernel
theorem dX4_find_51 : decode cX4_find 51 = .ok (.getfield 28, 3) := by decide +kernel
theorem dX4_find_54 : decode cX4_find 54 = .ok (.aload_n 0, 1) := by decide +kernel
theorem dX4_find_55 : decode cX4_find 55 = .ok (.getfield 21, 3) := by decide +kernel
theorem dX4_find_58 : decode cX4_find 58 = .ok (.iload_n 3, 1) := by decide +kernel
theorem dX4_find_59 : decode cX4_find 59 = .ok (.laload, 1) := by decide +kernel
theorem dX4_find_60 : decode cX4_find 60 = .ok (.lastore, 1) := by decide +kernel
theorem dX4_find_61 : decode cX4_find 61 = .ok (.aload_n 0, 1) := by decide +kernel
theorem dX4_find_62 : decode cX4_find 62 = .ok (.aload_n 0, 1) := by decide +kernel
theorem dX4_find_63 : decode cX4_find 63 = .ok (.getfield 18, 3) := by decide +kernel
theorem dX4_find_66 : decode cX4_find 66 = .ok (.iload_n 3, 1) := by decide +kernel
theorem dX4_find_67 : decode cX4_find 67 = .ok (.laload, 1) := by decide +kernel
theorem dX4_find_68 : decode cX4_find 68 = .ok (.invokevirtual 36, 3) := by decide +kernel
theorem dX4_find_71 : decode cX4_find 71 = .ok (.aload_n 0, 1) := by decide +kernel
theorem dX4_find_72 : decode cX4_find 72 = .ok (.dup, 1) := by decide +kernel
theorem dX4_find_73 : decode cX4_find 73 = .ok (.getfield 28, 3) := by decide +kernel
theorem dX4_find_76 : decode cX4_find 76 = .ok (.iconst 1, 1) := by decide +kernel
theorem dX4_find_77 : decode cX4_find 77 = .ok (.iadd, 1) := by decide +kernel
theorem dX4_find_78 : decode cX4_find 78 = .ok (.putfield 28, 3) := by decide +kernel
theorem dX4_find_81 : decode cX4_find 81 = .ok (.goto (-70), 3) := by decide +kernel
theorem dX4_find_84 : decode cX4_find 84 = .ok (.return_, 1) := by decide +kernel
set_option maxRecDepth 20000 in
theorem ggX4_isSumOfLighter_X4_mark : GoodIn wsX4_isSumOfLighter wsX4_mark := goodIn_r _ [7] (by decide +kernel) (by decide +kernel)
set_option maxRecDepth 20000 in
theorem gX4_isSumOfLighter_X4_mark : GoodIn wsX4_isSumOfLighter (va_wsS RX4 40 yX4_mark wsX4_mark) := goodIn_app (goodIn_of _ (by decide +kernel)) ggX4_isSumOfLighter_X4_mark
theorem dX4_isSumOfLighter_0 : decode cX4_isSumOfLighter 0 = .ok (.lload_n 1, 1) := by decide +kernel
theorem dX4_isSumOfLighter_1 : decode cX4_isSumOfLighter 1 = .ok (.lstore 5, 2) := by decide +kernel
theorem dX4_isSumOfLighter_3 : decode cX4_isSumOfLighter 3 = .ok (.iconst 0, 1) := by decide +kernel
theorem dX4_isSumOfLighter_4 : decode cX4_isSumOfLighter 4 = .ok (.istore 7, 2) := by decide +kernel
theorem dX4_isSumOfLighter_6 : decode cX4_isSumOfLighter 6 = .ok (.iload 7, 2) := by decide +kernel
theorem dX4_isSumOfLighter_8 : decode cX4_isSumOfLighter 8 = .ok (.aload_n 0, 1) := by decide +kernel
theorem dX4_isSumOfLighter_9 : decode cX4_isSumOfLighter 9 = .ok (.getfield 28, 3) := by decide +kernel
theorem dX4_isSumOfLighter_12 : decode cX4_isSumOfLighter 12 = .ok (.if_icmp .ge 51, 3) := by decide +kernel
theorem dX4_isSumOfLighter_15 : decode cX4_isSumOfLighter 15 = .ok (.aload_n 0, 1) := by decide +kernel
theorem dX4_isSumOfLighter_16 : decode cX4_isSumOfLighter 16 = .ok (.getfield 15, 3) := by decide +kernel
theorem dX4_isSumOfLighter_19 : decode cX4_isSumOfLighter 19 = .ok (.iload 7, 2) := by decide +kernel
theorem dX4_isSumOfLighter_21 : decode cX4_isSumOfLighter 21 = .ok (.laload, 1) := by decide +kernel
theorem dX4_isSumOfLighter_22 : decode cX4_isSumOfLighter 22 = .ok (.lload_n 3, 1) := by decide +kernel
theorem dX4_isSumOfLighter_23 : decode cX4_isSumOfLighter 23 = .ok (.lcmp, 1) := by decide +kernel
theorem dX4_isSumOfLighter_24 : decode cX4_isSumOfLighter 24 = .ok (.ifCond .ge 33, 3) := by decide +kernel
theorem dX4_isSumOfLighter_27 : decode cX4_isSumOfLighter 27 = .ok (.lload 5, 2) := by decide +kernel
theorem dX4_isSumOfLighter_29 : decode cX4_isSumOfLighter 29 = .ok (.aload_n 0, 1) := by decide +kernel
theorem dX4_isSumOfLighter_30 : decode cX4_isSumOfLighter 30 = .ok (.getfield 9, 3) := by decide +kernel
theorem dX4_isSumOfLighter_33 : decode cX4_isSumOfLighter 33 = .ok (.iload 7, 2) := by decide +kernel
theorem dX4_isSumOfLighter_35 : decode cX4_isSumOfLighter 35 = .ok (.laload, 1) := by decide +kernel
theorem dX4_isSumOfLighter_36 : decode cX4_isSumOfLighter 36 = .ok (.invokestatic 40, 3) := by decide +kernel
theorem dX4_isSumOfLighter_39 : decode cX4_isSumOfLighter 39 = .ok (.land, 1) := by decide +kernel
theorem dX4_isSumOfLighter_40 : decode cX4_isSumOfLighter 40 = .ok (.lconst 0, 1) := by decide +kernel
theorem dX4_isSumOfLighter_41 : decode cX4_isSumOfLighter 41 = .ok (.lcmp, 1) := by decide +kernel
theorem dX4_isSumOfLighter_42 : decode cX4_isSumOfLighter 42 = .ok (.ifCond .eq 15, 3) := by decide +kernel
theorem dX4_isSumOfLighter_45 : decode cX4_isSumOfLighter 45 = .ok (.lload 5, 2) := by decide +kernel
theorem dX4_isSumOfLighter_47 : decode cX4_isSumOfLighter 47 = .ok (.aload_n 0, 1) := by decide +kernel
theorem dX4_isSumOfLighter_48 : decode cX4_isSumOfLighter 48 = .ok (.getfield 9, 3) := by decide +kernel
theorem dX4_isSumOfLighter_51 : decode cX4_isSumOfLighter 51 = .ok (.iload 7, 2) := by decide +kernel
theorem dX4_isSumOfLighter_53 : decode cX4_isSumOfLighter 53 = .ok (.laload, 1) := by decide +kernel
theorem dX4_isSumOfLighter_54 : decode cX4_isSumOfLighter 54 = .ok (.lxor, 1) := by decide +kernel
theorem dX4_isSumOfLighter_55 : decode cX4_isSumOfLighter 55 = .ok (.lstore 5, 2) := by decide +kernel
theorem dX4_isSumOfLighter_57 : decode cX4_isSumOfLighter 57 = .ok (.iinc 7 1, 3) := by decide +kernel
theorem dX4_isSumOfLighter_60 : decode cX4_isSumOfLighter 60 = .ok (.goto (-54), 3) := by decide +kernel
theorem dX4_isSumOfLighter_63 : decode cX4_isSumOfLighter 63 = .ok (.lload 5, 2) := by decide +kernel
theorem dX4_isSumOfLighter_65 : decode cX4_isSumOfLighter 65 = .ok (.lconst 0, 1) := by decide +kernel
theorem dX4_isSumOfLighter_66 : decode cX4_isSumOfLighter 66 = .ok (.lcmp, 1) := by decide +kernel
theorem dX4_isSumOfLighter_67 : decode cX4_isSumOfLighter 67 = .ok (.ifCond .ne 7, 3) := by decide +kernel
theorem dX4_isSumOfLighter_70 : decode cX4_isSumOfLighter 70 = .ok (.iconst 1, 1) := by decide +kernel
theorem dX4_isSumOfLighter_71 : decode cX4_isSumOfLighter 71 = .ok (.goto 4, 3) := by decide +kernel
theorem dX4_isSumOfLighter_74 : decode cX4_isSumOfLighter 74 = .ok (.iconst 0, 1) := by decide +kernel
theorem dX4_isSumOfLighter_75 : decode cX4_isSumOfLighter 75 = .ok (.ireturn, 1) := by decide +kernel
set_option maxRecDepth 20000 in
theorem ggX4_gatherAll_X6_seek : GoodIn wsX4_gatherAll wsX6_seek := goodIn_r _ [6, 7, 8, 9, 10, 11, 12, 5, 13, 14, 15, 16, 17, 35, 36, 37, 38, 39, 40, 41] (by decide +kernel) (by decide +kernel)
set_option maxRecDepth 20000 in
theorem gX4_gatherAll_X6_seek : GoodIn wsX4_gatherAll (wsV RX4 52 RX6 yX6_seek wsX6_seek) := goodIn_app (goodIn_of _ (by decide +kernel)) ggX4_gatherAll_X6_seek
set_option maxRecDepth 20000 in
theorem ggX4_gatherAll_X4_gather : GoodIn wsX4_gatherAll wsX4_gather := goodIn_r _ [22, 23, 1, 24, 25, 26, 27, 5, 28, 7, 8, 35, 36, 37, 38, 39, 40, 41, 29, 30, 31, 32, 33, 34] (by decide +kernel) (by decide +kernel)
set_option maxRecDepth 20000 in
theorem gX4_gatherAll_X4_gather : GoodIn wsX4_gatherAll (wsV RX4 61 RX4 yX4_gather wsX4_gather) := goodIn_app (goodIn_of _ (by decide +kernel)) ggX4_gatherAll_X4_gather
theorem dX4_gatherAll_0 : decode cX4_gatherAll 0 = .ok (.aload_n 0, 1) := by decide +kernel
theorem dX4_gatherAll_1 : decode cX4_gatherAll 1 = .ok (.iconst 0, 1) := by decide +kernel
theorem dX4_gatherAll_2 : decode cX4_gatherAll 2 = .ok (.putfield 44, 3) := by decide +kernel
theorem dX4_gatherAll_5 : decode cX4_gatherAll 5 = .ok (.iconst 0, 1) := by decide +kernel
theorem dX4_gatherAll_6 : decode cX4_gatherAll 6 = .ok (.istore_n 3, 1) := by decide +kernel
theorem dX4_gatherAll_7 : decode cX4_gatherAll 7 = .ok (.iload_n 3, 1) := by decide +kernel
theorem dX4_gatherAll_8 : decode cX4_gatherAll 8 = .ok (.aload_n 1, 1) := by decide +kernel
theorem dX4_gatherAll_9 : decode cX4_gatherAll 9 = .ok (.getfield 47, 3) := by decide +kernel
theorem dX4_gatherAll_12 : decode cX4_gatherAll 12 = .ok (.if_icmp .ge 42, 3) := by decide +kernel
theorem dX4_gatherAll_15 : decode cX4_gatherAll 15 = .ok (.aload_n 2, 1) := by decide +kernel
theorem dX4_gatherAll_16 : decode cX4_gatherAll 16 = .ok (.aload_n 1, 1) := by decide +kernel
theorem dX4_gatherAll_17 : decode cX4_gatherAll 17 = .ok (.iload_n 3, 1) := by decide +kernel
theorem dX4_gatherAll_18 : decode cX4_gatherAll 18 = .ok (.iconst (-1), 1) := by decide +kernel
theorem dX4_gatherAll_19 : decode cX4_gatherAll 19 = .ok (.invokevirtual 52, 3) := by decide +kernel
theorem dX4_gatherAll_22 : decode cX4_gatherAll 22 = .ok (.iconst 0, 1) := by decide +kernel
theorem dX4_gatherAll_23 : decode cX4_gatherAll 23 = .ok (.istore 4, 2) := by decide +kernel
theorem dX4_gatherAll_25 : decode cX4_gatherAll 25 = .ok (.iload 4, 2) := by decide +kernel
theorem dX4_gatherAll_27 : decode cX4_gatherAll 27 = .ok (.aload_n 1, 1) := by decide +kernel
theorem dX4_gatherAll_28 : decode cX4_gatherAll 28 = .ok (.getfield 58, 3) := by decide +kernel
theorem dX4_gatherAll_31 : decode cX4_gatherAll 31 = .ok (.if_icmp .ge 17, 3) := by decide +kernel
theorem dX4_gatherAll_34 : decode cX4_gatherAll 34 = .ok (.aload_n 0, 1) := by decide +kernel
theorem dX4_gatherAll_35 : decode cX4_gatherAll 35 = .ok (.aload_n 1, 1) := by decide +kernel
theorem dX4_gatherAll_36 : decode cX4_gatherAll 36 = .ok (.aload_n 2, 1) := by decide +kernel
theorem dX4_gatherAll_37 : decode cX4_gatherAll 37 = .ok (.iload 4, 2) := by decide +kernel
theorem dX4_gatherAll_39 : decode cX4_gatherAll 39 = .ok (.invokevirtual 61, 3) := by decide +kernel
theorem dX4_gatherAll_42 : decode cX4_gatherAll 42 = .ok (.iinc 4 1, 3) := by decide +kernel
theorem dX4_gatherAll_45 : decode cX4_gatherAll 45 = .ok (.goto (-20), 3) := by decide +kernel
theorem dX4_gatherAll_48 : decode cX4_gatherAll 48 = .ok (.iinc 3 1, 3) := by decide +kernel
theorem dX4_gatherAll_51 : decode cX4_gatherAll 51 = .ok (.goto (-44), 3) := by decide +kernel
theorem dX4_gatherAll_54 : decode cX4_gatherAll 54 = .ok (.return_, 1) := by decide +kernel
set_option maxRecDepth 20000 in
theorem ggX4_gather_X6_reaches : GoodIn wsX4_gather wsX6_reaches := goodIn_r _ [8, 9, 10, 16, 17] (by decide +kernel) (by decide +kernel)
set_option maxRecDepth 20000 in
theorem gX4_gather_X6_reaches : GoodIn wsX4_gather (wsV RX4 75 RX6 yX6_reaches wsX6_reaches) := goodIn_app (goodIn_of _ (by decide +kernel)) ggX4_gather_X6_reaches
theorem dX4_gather_0 : decode cX4_gather 0 = .ok (.aload_n 1, 1) := by decide +kernel
theorem dX4_gather_1 : decode cX4_gather 1 = .ok (.getfield 65, 3) := by decide +kernel
theorem dX4_gather_4 : decode cX4_gather 4 = .ok (.iload_n 3, 1) := by decide +kernel
theorem dX4_gather_5 : decode cX4_gather 5 = .ok (.iaload, 1) := by decide +kernel
theorem dX4_gather_6 : decode cX4_gather 6 = .ok (.istore 4, 2) := by decide +kernel
theorem dX4_gather_8 : decode cX4_gather 8 = .ok (.aload_n 1, 1) := by decide +kernel
theorem dX4_gather_9 : decode cX4_gather 9 = .ok (.getfield 69, 3) := by decide +kernel
theorem dX4_gather_12 : decode cX4_gather 12 = .ok (.iload_n 3, 1) := by decide +kernel
theorem dX4_gather_13 : decode cX4_gather 13 = .ok (.iaload, 1) := by decide +kernel
theorem dX4_gather_14 : decode cX4_gather 14 = .ok (.istore 5, 2) := by decide +kernel
theorem dX4_gather_16 : decode cX4_gather 16 = .ok (.aload_n 2, 1) := by decide +kernel
theorem dX4_gather_17 : decode cX4_gather 17 = .ok (.getfield 72, 3) := by decide +kernel
theorem dX4_gather_20 : decode cX4_gather 20 = .ok (.iload 4, 2) := by decide +kernel
theorem dX4_gather_22 : decode cX4_gather 22 = .ok (.laload, 1) := by decide +kernel
theorem dX4_gather_23 : decode cX4_gather 23 = .ok (.aload_n 2, 1) := by decide +kernel
theorem dX4_gather_24 : decode cX4_gather 24 = .ok (.getfield 72, 3) := by decide +kernel
theorem dX4_gather_27 : decode cX4_gather 27 = .ok (.iload 5, 2) := by decide +kernel
theorem dX4_gather_29 : decode cX4_gather 29 = .ok (.laload, 1) := by decide +kernel
theorem dX4_gather_30 : decode cX4_gather 30 = .ok (.lxor, 1) := by decide +kernel
theorem dX4_gather_31 : decode cX4_gather 31 = .ok (.lconst 1, 1) := by decide +kernel
theorem dX4_gather_32 : decode cX4_gather 32 = .ok (.iload_n 3, 1) := by decide +kernel
theorem dX4_gather_33 : decode cX4_gather 33 = .ok (.lshl, 1) := by decide +kernel
theorem dX4_gather_34 : decode cX4_gather 34 = .ok (.lxor, 1) := by decide +kernel
theorem dX4_gather_35 : decode cX4_gather 35 = .ok (.lstore 6, 2) := by decide +kernel
theorem dX4_gather_37 : decode cX4_gather 37 = .ok (.aload_n 2, 1) := by decide +kernel
theorem dX4_gather_38 : decode cX4_gather 38 = .ok (.iload 4, 2) := by decide +kernel
theorem dX4_gather_40 : decode cX4_gather 40 = .ok (.invokevirtual 75, 3) := by decide +kernel
theorem dX4_gather_43 : decode cX4_gather 43 = .ok (.ifCond .eq 63, 3) := by decide +kernel
theorem dX4_gather_46 : decode cX4_gather 46 = .ok (.lload 6, 2) := by decide +kernel
theorem dX4_gather_48 : decode cX4_gather 48 = .ok (.lconst 0, 1) := by decide +kernel
theorem dX4_gather_49 : decode cX4_gather 49 = .ok (.lcmp, 1) := by decide +kernel
theorem dX4_gather_50 : decode cX4_gather 50 = .ok (.ifCond .eq 56, 3) := by decide +kernel
theorem dX4_gather_53 : decode cX4_gather 53 = .ok (.aload_n 0, 1) := by decide +kernel
theorem dX4_gather_54 : decode cX4_gather 54 = .ok (.getfield 18, 3) := by decide +kernel
theorem dX4_gather_57 : decode cX4_gather 57 = .ok (.aload_n 0, 1) := by decide +kernel
theorem dX4_gather_58 : decode cX4_gather 58 = .ok (.getfield 44, 3) := by decide +kernel
theorem dX4_gather_61 : decode cX4_gather 61 = .ok (.lload 6, 2) := by decide +kernel
theorem dX4_gather_63 : decode cX4_gather 63 = .ok (.lastore, 1) := by decide +kernel
theorem dX4_gather_64 : decode cX4_gather 64 = .ok (.aload_n 0, 1) := by decide +kernel
theorem dX4_gather_65 : decode cX4_gather 65 = .ok (.getfield 21, 3) := by decide +kernel
theorem dX4_gather_68 : decode cX4_gather 68 = .ok (.aload_n 0, 1) := by decide +kernel
theorem dX4_gather_69 : decode cX4_gather 69 = .ok (.getfield 44, 3) := by decide +kernel
theorem dX4_gather_72 : decode cX4_gather 72 = .ok (.aload_n 2, 1) := by decide +kernel
theorem dX4_gather_73 : decode cX4_gather 73 = .ok (.getfield 79, 3) := by decide +kernel
theorem dX4_gather_76 : decode cX4_gather 76 = .ok (.iload 4, 2) := by decide +kernel
theorem dX4_gather_78 : decode cX4_gather 78 = .ok (.laload, 1) := by decide +kernel
theorem dX4_gather_79 : decode cX4_gather 79 = .ok (.aload_n 2, 1) := by decide +kernel
theorem dX4_gather_80 : decode cX4_gather 80 = .ok (.getfield 79, 3) := by decide +kernel
theorem dX4_gather_83 : decode cX4_gather 83 = .ok (.iload 5, 2) := by decide +kernel
theorem dX4_gather_85 : decode cX4_gather 85 = .ok (.laload, 1) := by decide +kernel
theorem dX4_gather_86 : decode cX4_gather 86 = .ok (.ladd, 1) := by decide +kernel
theorem dX4_gather_87 : decode cX4_gather 87 = .ok (.aload_n 1, 1) := by decide +kernel
theorem dX4_gather_88 : decode cX4_gather 88 = .ok (.getfield 82, 3) := by decide +kernel
theorem dX4_gather_91 : decode cX4_gather 91 = .ok (.iload_n 3, 1) := by decide +kernel
theorem dX4_gather_92 : decode cX4_gather 92 = .ok (.iaload, 1) := by decide +kernel
theorem dX4_gather_93 : decode cX4_gather 93 = .ok (.i2l, 1) := by decide +kernel
theorem dX4_gather_94 : decode cX4_gather 94 = .ok (.ladd, 1) := by decide +kernel
theorem dX4_gather_95 : decode cX4_gather 95 = .ok (.lastore, 1) := by decide +kernel
theorem dX4_gather_96 : decode cX4_gather 96 = .ok (.aload_n 0, 1) := by decide +kernel
theorem dX4_gather_97 : decode cX4_gather 97 = .ok (.dup, 1) := by decide +kernel
theorem dX4_gather_98 : decode cX4_gather 98 = .ok (.getfield 44, 3) := by decide +kernel
theorem dX4_gather_101 : decode cX4_gather 101 = .ok (.iconst 1, 1) := by decide +kernel
theorem dX4_gather_102 : decode cX4_gather 102 = .ok (.iadd, 1) := by decide +kernel
theorem dX4_gather_103 : decode cX4_gather 103 = .ok (.putfield 44, 3) := by decide +kernel
theorem dX4_gather_106 : decode cX4_gather 106 = .ok (.return_, 1) := by decide +kernel
theorem dX4_lightestLeft_0 : decode cX4_lightestLeft 0 = .ok (.iconst (-1), 1) := by decide +kernel
theorem dX4_lightestLeft_1 : decode cX4_lightestLeft 1 = .ok (.istore_n 1, 1) := by decide +kernel
theorem dX4_lightestLeft_2 : decode cX4_lightestLeft 2 = .ok (.iconst 0, 1) := by decide +kernel
theorem dX4_lightestLeft_3 : decode cX4_lightestLeft 3 = .ok (.istore_n 2, 1) := by decide +kernel
theorem dX4_lightestLeft_4 : decode cX4_lightestLeft 4 = .ok (.iload_n 2, 1) := by decide +kernel
theorem dX4_lightestLeft_5 : decode cX4_lightestLeft 5 = .ok (.aload_n 0, 1) := by decide +kernel
theorem dX4_lightestLeft_6 : decode cX4_lightestLeft 6 = .ok (.getfield 44, 3) := by decide +kernel
theorem dX4_lightestLeft_9 : decode cX4_lightestLeft 9 = .ok (.if_icmp .ge 43, 3) := by decide +kernel
theorem dX4_lightestLeft_12 : decode cX4_lightestLeft 12 = .ok (.aload_n 0, 1) := by decide +kernel
theorem dX4_lightestLeft_13 : decode cX4_lightestLeft 13 = .ok (.getfield 18, 3) := by decide +kernel
theorem dX4_lightestLeft_16 : decode cX4_lightestLeft 16 = .ok (.iload_n 2, 1) := by decide +kernel
theorem dX4_lightestLeft_17 : decode cX4_lightestLeft 17 = .ok (.laload, 1) := by decide +kernel
theorem dX4_lightestLeft_18 : decode cX4_lightestLeft 18 = .ok (.lconst 0, 1) := by decide +kernel
theorem dX4_lightestLeft_19 : decode cX4_lightestLeft 19 = .ok (.lcmp, 1) := by decide +kernel
theorem dX4_lightestLeft_20 : decode cX4_lightestLeft 20 = .ok (.ifCond .eq 26, 3) := by decide +kernel
theorem dX4_lightestLeft_23 : decode cX4_lightestLeft 23 = .ok (.iload_n 1, 1) := by decide +kernel
theorem dX4_lightestLeft_24 : decode cX4_lightestLeft 24 = .ok (.iconst (-1), 1) := by decide +kernel
theorem dX4_lightestLeft_25 : decode cX4_lightestLeft 25 = .ok (.if_icmp .eq 19, 3) := by decide +kernel
theorem dX4_lightestLeft_28 : decode cX4_lightestLeft 28 = .ok (.aload_n 0, 1) := by decide +kernel
theorem dX4_lightestLeft_29 : decode cX4_lightestLeft 29 = .ok (.getfield 21, 3) := by decide +kernel
theorem dX4_lightestLeft_32 : decode cX4_lightestLeft 32 = .ok (.iload_n 2, 1) := by decide +kernel
theorem dX4_lightestLeft_33 : decode cX4_lightestLeft 33 = .ok (.laload, 1) := by decide +kernel
theorem dX4_lightestLeft_34 : decode cX4_lightestLeft 34 = .ok (.aload_n 0, 1) := by decide +kernel
theorem dX4_lightestLeft_35 : decode cX4_lightestLeft 35 = .ok (.getfield 21, 3) := by decide +kernel
theorem dX4_lightestLeft_38 : decode cX4_lightestLeft 38 = .ok (.iload_n 1, 1) := by decide +kernel
theorem dX4_lightestLeft_39 : decode cX4_lightestLeft 39 = .ok (.laload, 1) := by decide +kernel
theorem dX4_lightestLeft_40 : decode cX4_lightestLeft 40 = .ok (.lcmp, 1) := by decide +kernel
theorem dX4_lightestLeft_41 : decode cX4_lightestLeft 41 = .ok (.ifCond .ge 5, 3) := by decide +kernel
theorem dX4_lightestLeft_44 : decode cX4_lightestLeft 44 = .ok (.iload_n 2, 1) := by decide +kernel
theorem dX4_lightestLeft_45 : decode cX4_lightestLeft 45 = .ok (.istore_n 1, 1) := by decide +kernel
theorem dX4_lightestLeft_46 : decode cX4_lightestLeft 46 = .ok (.iinc 2 1, 3) := by decide +kernel
theorem dX4_lightestLeft_49 : decode cX4_lightestLeft 49 = .ok (.goto (-45), 3) := by decide +kernel
theorem dX4_lightestLeft_52 : decode cX4_lightestLeft 52 = .ok (.iload_n 1, 1) := by decide +kernel
theorem dX4_lightestLeft_53 : decode cX4_lightestLeft 53 = .ok (.ireturn, 1) := by decide +kernel
set_option maxRecDepth 20000 in
theorem ggX4_strike_X4_mark : GoodIn wsX4_strike wsX4_mark := goodIn_r _ [6] (by decide +kernel) (by decide +kernel)
set_option maxRecDepth 20000 in
theorem gX4_strike_X4_mark : GoodIn wsX4_strike (va_wsS RX4 40 yX4_mark wsX4_mark) := goodIn_app (goodIn_of _ (by decide +kernel)) ggX4_strike_X4_mark
theorem dX4_strike_0 : decode cX4_strike 0 = .ok (.iconst 0, 1) := by decide +kernel
theorem dX4_strike_1 : decode cX4_strike 1 = .ok (.istore_n 3, 1) := by decide +kernel
theorem dX4_strike_2 : decode cX4_strike 2 = .ok (.iload_n 3, 1) := by decide +kernel
theorem dX4_strike_3 : decode cX4_strike 3 = .ok (.aload_n 0, 1) := by decide +kernel
theorem dX4_strike_4 : decode cX4_strike 4 = .ok (.getfield 44, 3) := by decide +kernel
theorem dX4_strike_7 : decode cX4_strike 7 = .ok (.if_icmp .ge 35, 3) := by decide +kernel
theorem dX4_strike_10 : decode cX4_strike 10 = .ok (.aload_n 0, 1) := by decide +kernel
theorem dX4_strike_11 : decode cX4_strike 11 = .ok (.getfield 18, 3) := by decide +kernel
theorem dX4_strike_14 : decode cX4_strike 14 = .ok (.iload_n 3, 1) := by decide +kernel
theorem dX4_strike_15 : decode cX4_strike 15 = .ok (.laload, 1) := by decide +kernel
theorem dX4_strike_16 : decode cX4_strike 16 = .ok (.lload_n 1, 1) := by decide +kernel
theorem dX4_strike_17 : decode cX4_strike 17 = .ok (.invokestatic 40, 3) := by decide +kernel
theorem dX4_strike_20 : decode cX4_strike 20 = .ok (.land, 1) := by decide +kernel
theorem dX4_strike_21 : decode cX4_strike 21 = .ok (.lconst 0, 1) := by decide +kernel
theorem dX4_strike_22 : decode cX4_strike 22 = .ok (.lcmp, 1) := by decide +kernel
theorem dX4_strike_23 : decode cX4_strike 23 = .ok (.ifCond .eq 13, 3) := by decide +kernel
theorem dX4_strike_26 : decode cX4_strike 26 = .ok (.aload_n 0, 1) := by decide +kernel
theorem dX4_strike_27 : decode cX4_strike 27 = .ok (.getfield 18, 3) := by decide +kernel
theorem dX4_strike_30 : decode cX4_strike 30 = .ok (.iload_n 3, 1) := by decide +kernel
theorem dX4_strike_31 : decode cX4_strike 31 = .ok (.dup2, 1) := by decide +kernel
theorem dX4_strike_32 : decode cX4_strike 32 = .ok (.laload, 1) := by decide +kernel
theorem dX4_strike_33 : decode cX4_strike 33 = .ok (.lload_n 1, 1) := by decide +kernel
theorem dX4_strike_34 : decode cX4_strike 34 = .ok (.lxor, 1) := by decide +kernel
theorem dX4_strike_35 : decode cX4_strike 35 = .ok (.lastore, 1) := by decide +kernel
theorem dX4_strike_36 : decode cX4_strike 36 = .ok (.iinc 3 1, 3) := by decide +kernel
theorem dX4_strike_39 : decode cX4_strike 39 = .ok (.goto (-37), 3) := by decide +kernel
theorem dX4_strike_42 : decode cX4_strike 42 = .ok (.return_, 1) := by decide +kernel
theorem dX4_mark_0 : decode cX4_mark 0 = .ok (.lload_n 0, 1) := by decide +kernel
theorem dX4_mark_1 : decode cX4_mark 1 = .ok (.lload_n 0, 1) := by decide +kernel
theorem dX4_mark_2 : decode cX4_mark 2 = .ok (.lneg, 1) := by decide +kernel
theorem dX4_mark_3 : decode cX4_mark 3 = .ok (.land, 1) := by decide +kernel
theorem dX4_mark_4 : decode cX4_mark 4 = .ok (.lreturn, 1) := by decide +kernel
theorem dX5_init_0 : decode cX5_init 0 = .ok (.aload_n 0, 1) := by decide +kernel
theorem dX5_init_1 : decode cX5_init 1 = .ok (.invokespecial 3, 3) := by decide +kernel
theorem dX5_init_4 : decode cX5_init 4 = .ok (.aload_n 0, 1) := by decide +kernel
theorem dX5_init_5 : decode cX5_init 5 = .ok (.bipush 40, 2) := by decide +kernel
theorem dX5_init_7 : decode cX5_init 7 = .ok (.newarray .long, 2) := by decide +kernel
theorem dX5_init_9 : decode cX5_init 9 = .ok (.putfield 9, 3) := by decide +kernel
theorem dX5_init_12 : decode cX5_init 12 = .ok (.return_, 1) := by decide +kernel
set_option maxRecDepth 20000 in
theorem ggX5_append_X5_rest : GoodIn wsX5_append wsX5_rest := goodIn_r _ [8, 1, 9, 10, 11, 21, 22, 23] (by decide +kernel) (by decide +kernel)
set_option maxRecDepth 20000 in
theorem gX5_append_X5_rest : GoodIn wsX5_append (wsV RX5 15 RX5 yX5_rest wsX5_rest) := goodIn_app (goodIn_of _ (by decide +kernel)) ggX5_append_X5_rest
set_option maxRecDepth 20000 in
theorem ggX5_append_J13_numberOfTrailingZeros_95d88 : GoodIn wsX5_append wsJ13_numberOfTrailingZeros_95d88 := goodIn_r _ [15, 16, 17, 18, 19, 20] (by decide +kernel) (by decide +kernel)
set_option maxRecDepth 20000 in
theorem gX5_append_J13_numberOfTrailingZeros_95d88 : GoodIn wsX5_append (va_wsS RX5 19 yJ13_numberOfTrailingZeros_95d88 wsJ13_numberOfTrailingZeros_95d88) := goodIn_app (goodIn_of _ (by decide +kernel)) ggX5_append_J13_numberOfTrailingZeros_95d88
theorem dX5_append_0 : decode cX5_append 0 = .ok (.aload_n 0, 1) := by decide +kernel
theorem dX5_append_1 : decode cX5_append 1 = .ok (.lload_n 1, 1) := by decide +kernel
theorem dX5_append_2 : decode cX5_append 2 = .ok (.invokevirtual 15, 3) := by decide +kernel
theorem dX5_append_5 : decode cX5_append 5 = .ok (.lstore_n 3, 1) := by decide +kernel
theorem dX5_append_6 : decode cX5_append 6 = .ok (.lload_n 3, 1) := by decide +kernel
theorem dX5_append_7 : decode cX5_append 7 = .ok (.lconst 0, 1) := by decide +kernel
theorem dX5_append_8 : decode cX5_append 8 = .ok (.lcmp, 1) := by decide +kernel
theorem dX5_append_9 : decode cX5_append 9 = .ok (.ifCond .eq 23, 3) := by decide +kernel
theorem dX5_append_12 : decode cX5_append 12 = .ok (.aload_n 0, 1) := by decide +kernel
theorem dX5_append_13 : decode cX5_append 13 = .ok (.getfield 9, 3) := by decide +kernel
theorem dX5_append_16 : decode cX5_append 16 = .ok (.lload_n 3, 1) := by decide +kernel
theorem dX5_append_17 : decode cX5_append 17 = .ok (.invokestatic 19, 3) := by decide +kernel
theorem dX5_append_20 : decode cX5_append 20 = .ok (.lload_n 3, 1) := by decide +kernel
theorem dX5_append_21 : decode cX5_append 21 = .ok (.lastore, 1) := by decide +kernel
theorem dX5_append_22 : decode cX5_append 22 = .ok (.aload_n 0, 1) := by decide +kernel
theorem dX5_append_23 : decode cX5_append 23 = .ok (.dup, 1) := by decide +kernel
theorem dX5_append_24 : decode cX5_append 24 = .ok (.getfield 25, 3) := by decide +kernel
theorem dX5_append_27 : decode cX5_append 27 = .ok (.iconst 1, 1) := by decide +kernel
theorem dX5_append_28 : decode cX5_append 28 = .ok (.iadd, 1) := by decide +kernel
theorem dX5_append_29 : decode cX5_append 29 = .ok (.putfield 25, 3) := by decide +kernel
theorem dX5_append_32 : decode cX5_append 32 = .ok (.aload_n 0, 1) := by decide +kernel
theorem dX5_append_33 : decode cX5_append 33 = .ok (.dup, 1) := by decide +kernel
theorem dX5_append_34 : decode cX5_append 34 = .ok (.getfield 29, 3) := by decide +kernel
theorem dX5_append_37 : decode cX5_append 37 = .ok (.iconst 1, 1) := by decide +kernel
theorem dX5_append_38 : decode cX5_append 38 = .ok (.iadd, 1) := by decide +kernel
theorem dX5_append_39 : decode cX5_append 39 = .ok (.putfield 29, 3) := by decide +kernel
theorem dX5_append_42 : decode cX5_append 42 = .ok (.aload_n 0, 1) := by decide +kernel
theorem dX5_append_43 : decode cX5_append 43 = .ok (.getfield 29, 3) := by decide +kernel
theorem dX5_append_46 : decode cX5_append 46 = .ok (.ireturn, 1) := by decide +kernel
set_option maxRecDepth 20000 in
theorem ggX5_empty_J7_fill_d0a16 : GoodIn wsX5_empty wsJ7_fill_d0a16 := goodIn_r _ [7] (by decide +kernel) (by decide +kernel)
set_option maxRecDepth 20000 in
theorem gX5_empty_J7_fill_d0a16 : GoodIn wsX5_empty (va_wsS RX5 32 yJ7_fill_d0a16 wsJ7_fill_d0a16) := goodIn_app (goodIn_of _ (by decide +kernel)) ggX5_empty_J7_fill_d0a16
theorem dX5_empty_0 : decode cX5_empty 0 = .ok (.aload_n 0, 1) := by decide +kernel
theorem dX5_empty_1 : decode cX5_empty 1 = .ok (.iconst 0, 1) := by decide +kernel
theorem dX5_empty_2 : decode cX5_empty 2 = .ok (.putfield 29, 3) := by decide +kernel
theorem dX5_empty_5 : decode cX5_empty 5 = .ok (.aload_n 0, 1) := by decide +kernel
theorem dX5_empty_6 : decode cX5_empty 6 = .ok (.iconst 0, 1) := by decide +kernel
theorem dX5_empty_7 : decode cX5_empty 7 = .ok (.putfield 25, 3) := by decide +kernel
theorem dX5_empty_10 : decode cX5_empty 10 = .ok (.aload_n 0, 1) := by decide +kernel
theorem dX5_empty_11 : decode cX5_empty 11 = .ok (.getfield 9, 3) := by decide +kernel
theorem dX5_empty_14 : decode cX5_empty 14 = .ok (.lconst 0, 1) := by decide +kernel
theorem dX5_empty_15 : decode cX5_empty 15 = .ok (.invokestatic 32, 3) := by decide +kernel
theorem dX5_empty_18 : decode cX5_empty 18 = .ok (.return_, 1) := by decide +kernel
set_option maxRecDepth 20000 in
theorem ggX5_rest_X7_has : GoodIn wsX5_rest wsX7_has := goodIn_r _ [4] (by decide +kernel) (by decide +kernel)
set_option maxRecDepth 20000 in
theorem gX5_rest_X7_has_n38 : GoodIn wsX5_rest (wsX7_has) := ggX5_rest_X7_has
theorem dX5_rest_0 : decode cX5_rest 0 = .ok (.lload_n 1, 1) := by decide +kernel
theorem dX5_rest_1 : decode cX5_rest 1 = .ok (.lstore_n 3, 1) := by decide +kernel
theorem dX5_rest_2 : decode cX5_rest 2 = .ok (.iconst 0, 1) := by decide +kernel
theorem dX5_rest_3 : decode cX5_rest 3 = .ok (.istore 5, 2) := by decide +kernel
theorem dX5_rest_5 : decode cX5_rest 5 = .ok (.iload 5, 2) := by decide +kernel
theorem dX5_rest_7 : decode cX5_rest 7 = .ok (.bipush 40, 2) := by decide +kernel
theorem dX5_rest_9 : decode cX5_rest 9 = .ok (.if_icmp .ge 28, 3) := by decide +kernel
theorem dX5_rest_12 : decode cX5_rest 12 = .ok (.lload_n 3, 1) := by decide +kernel
theorem dX5_rest_13 : decode cX5_rest 13 = .ok (.iload 5, 2) := by decide +kernel
theorem dX5_rest_15 : decode cX5_rest 15 = .ok (.invokestatic 38, 3) := by decide +kernel
theorem dX5_rest_18 : decode cX5_rest 18 = .ok (.ifCond .eq 13, 3) := by decide +kernel
theorem dX5_rest_21 : decode cX5_rest 21 = .ok (.lload_n 3, 1) := by decide +kernel
theorem dX5_rest_22 : decode cX5_rest 22 = .ok (.aload_n 0, 1) := by decide +kernel
theorem dX5_rest_23 : decode cX5_rest 23 = .ok (.getfield 9, 3) := by decide +kernel
theorem dX5_rest_26 : decode cX5_rest 26 = .ok (.iload 5, 2) := by decide +kernel
theorem dX5_rest_28 : decode cX5_rest 28 = .ok (.laload, 1) := by decide +kernel
theorem dX5_rest_29 : decode cX5_rest 29 = .ok (.lxor, 1) := by decide +kernel
theorem dX5_rest_30 : decode cX5_rest 30 = .ok (.lstore_n 3, 1) := by decide +kernel
theorem dX5_rest_31 : decode cX5_rest 31 = .ok (.iinc 5 1, 3) := by decide +kernel
theorem dX5_rest_34 : decode cX5_rest 34 = .ok (.goto (-29), 3) := by decide +kernel
theorem dX5_rest_37 : decode cX5_rest 37 = .ok (.lload_n 3, 1) := by decide +kernel
theorem dX5_rest_38 : decode cX5_rest 38 = .ok (.lreturn, 1) := by decide +kernel
theorem dX6_init_0 : decode cX6_init 0 = .ok (.aload_n 0, 1) := by decide +kernel
theorem dX6_init_1 : decode cX6_init 1 = .ok (.invokespecial 3, 3) := by decide +kernel
theorem dX6_init_4 : decode cX6_init 4 = .ok (.aload_n 0, 1) := by decide +kernel
theorem dX6_init_5 : decode cX6_init 5 = .ok (.bipush 16, 2) := by decide +kernel
theorem dX6_init_7 : decode cX6_init 7 = .ok (.newarray .long, 2) := by decide +kernel
theorem dX6_init_9 : decode cX6_init 9 = .ok (.putfield 9, 3) := by decide +kernel
theorem dX6_init_12 : decode cX6_init 12 = .ok (.aload_n 0, 1) := by decide +kernel
theorem dX6_init_13 : decode cX6_init 13 = .ok (.bipush 16, 2) := by decide +kernel
theorem dX6_init_15 : decode cX6_init 15 = .ok (.newarray .long, 2) := by decide +kernel
theorem dX6_init_17 : decode cX6_init 17 = .ok (.putfield 15, 3) := by decide +kernel
theorem dX6_init_20 : decode cX6_init 20 = .ok (.return_, 1) := by decide +kernel
set_option maxRecDepth 20000 in
theorem ggX6_seek_X6_shortenAll : GoodIn wsX6_seek wsX6_shortenAll := goodIn_r _ [8, 9, 10, 11, 7, 12, 1, 3, 13, 14, 15, 16, 17, 18, 19] (by decide +kernel) (by decide +kernel)
set_option maxRecDepth 20000 in
theorem gX6_seek_X6_shortenAll : GoodIn wsX6_seek (wsV RX6 26 RX6 yX6_shortenAll wsX6_shortenAll) := goodIn_app (goodIn_of _ (by decide +kernel)) ggX6_seek_X6_shortenAll
theorem dX6_seek_0 : decode cX6_seek 0 = .ok (.iconst 0, 1) := by decide +kernel
theorem dX6_seek_1 : decode cX6_seek 1 = .ok (.istore 4, 2) := by decide +kernel
theorem dX6_seek_3 : decode cX6_seek 3 = .ok (.iload 4, 2) := by decide +kernel
theorem dX6_seek_5 : decode cX6_seek 5 = .ok (.aload_n 1, 1) := by decide +kernel
theorem dX6_seek_6 : decode cX6_seek 6 = .ok (.getfield 18, 3) := by decide +kernel
theorem dX6_seek_9 : decode cX6_seek 9 = .ok (.if_icmp .ge 27, 3) := by decide +kernel
theorem dX6_seek_12 : decode cX6_seek 12 = .ok (.aload_n 0, 1) := by decide +kernel
theorem dX6_seek_13 : decode cX6_seek 13 = .ok (.getfield 9, 3) := by decide +kernel
theorem dX6_seek_16 : decode cX6_seek 16 = .ok (.iload 4, 2) := by decide +kernel
theorem dX6_seek_18 : decode cX6_seek 18 = .ok (.ldc2_w 24, 3) := by decide +kernel
theorem dX6_seek_21 : decode cX6_seek 21 = .ok (.lastore, 1) := by decide +kernel
theorem dX6_seek_22 : decode cX6_seek 22 = .ok (.aload_n 0, 1) := by decide +kernel
theorem dX6_seek_23 : decode cX6_seek 23 = .ok (.getfield 15, 3) := by decide +kernel
theorem dX6_seek_26 : decode cX6_seek 26 = .ok (.iload 4, 2) := by decide +kernel
theorem dX6_seek_28 : decode cX6_seek 28 = .ok (.lconst 0, 1) := by decide +kernel
theorem dX6_seek_29 : decode cX6_seek 29 = .ok (.lastore, 1) := by decide +kernel
theorem dX6_seek_30 : decode cX6_seek 30 = .ok (.iinc 4 1, 3) := by decide +kernel
theorem dX6_seek_33 : decode cX6_seek 33 = .ok (.goto (-30), 3) := by decide +kernel
theorem dX6_seek_36 : decode cX6_seek 36 = .ok (.aload_n 0, 1) := by decide +kernel
theorem dX6_seek_37 : decode cX6_seek 37 = .ok (.getfield 9, 3) := by decide +kernel
theorem dX6_seek_40 : decode cX6_seek 40 = .ok (.iload_n 2, 1) := by decide +kernel
theorem dX6_seek_41 : decode cX6_seek 41 = .ok (.lconst 0, 1) := by decide +kernel
theorem dX6_seek_42 : decode cX6_seek 42 = .ok (.lastore, 1) := by decide +kernel
theorem dX6_seek_43 : decode cX6_seek 43 = .ok (.iconst 1, 1) := by decide +kernel
theorem dX6_seek_44 : decode cX6_seek 44 = .ok (.istore 4, 2) := by decide +kernel
theorem dX6_seek_46 : decode cX6_seek 46 = .ok (.iconst 1, 1) := by decide +kernel
theorem dX6_seek_47 : decode cX6_seek 47 = .ok (.istore 5, 2) := by decide +kernel
theorem dX6_seek_49 : decode cX6_seek 49 = .ok (.iload 5, 2) := by decide +kernel
theorem dX6_seek_51 : decode cX6_seek 51 = .ok (.aload_n 1, 1) := by decide +kernel
theorem dX6_seek_52 : decode cX6_seek 52 = .ok (.getfield 18, 3) := by decide +kernel
theorem dX6_seek_55 : decode cX6_seek 55 = .ok (.if_icmp .ge 22, 3) := by decide +kernel
theorem dX6_seek_58 : decode cX6_seek 58 = .ok (.iload 4, 2) := by decide +kernel
theorem dX6_seek_60 : decode cX6_seek 60 = .ok (.ifCond .eq 17, 3) := by decide +kernel
theorem dX6_seek_63 : decode cX6_seek 63 = .ok (.aload_n 0, 1) := by decide +kernel
theorem dX6_seek_64 : decode cX6_seek 64 = .ok (.aload_n 1, 1) := by decide +kernel
theorem dX6_seek_65 : decode cX6_seek 65 = .ok (.iload_n 3, 1) := by decide +kernel
theorem dX6_seek_66 : decode cX6_seek 66 = .ok (.invokevirtual 26, 3) := by decide +kernel
theorem dX6_seek_69 : decode cX6_seek 69 = .ok (.istore 4, 2) := by decide +kernel
theorem dX6_seek_71 : decode cX6_seek 71 = .ok (.iinc 5 1, 3) := by decide +kernel
theorem dX6_seek_74 : decode cX6_seek 74 = .ok (.goto (-25), 3) := by decide +kernel
theorem dX6_seek_77 : decode cX6_seek 77 = .ok (.return_, 1) := by decide +kernel
theorem dX6_reaches_0 : decode cX6_reaches 0 = .ok (.aload_n 0, 1) := by decide +kernel
theorem dX6_reaches_1 : decode cX6_reaches 1 = .ok (.getfield 9, 3) := by decide +kernel
theorem dX6_reaches_4 : decode cX6_reaches 4 = .ok (.iload_n 1, 1) := by decide +kernel
theorem dX6_reaches_5 : decode cX6_reaches 5 = .ok (.laload, 1) := by decide +kernel
theorem dX6_reaches_6 : decode cX6_reaches 6 = .ok (.ldc2_w 24, 3) := by decide +kernel
theorem dX6_reaches_9 : decode cX6_reaches 9 = .ok (.lcmp, 1) := by decide +kernel
theorem dX6_reaches_10 : decode cX6_reaches 10 = .ok (.ifCond .ge 7, 3) := by decide +kernel
theorem dX6_reaches_13 : decode cX6_reaches 13 = .ok (.iconst 1, 1) := by decide +kernel
theorem dX6_reaches_14 : decode cX6_reaches 14 = .ok (.goto 4, 3) := by decide +kernel
theorem dX6_reaches_17 : decode cX6_reaches 17 = .ok (.iconst 0, 1) := by decide +kernel
theorem dX6_reaches_18 : decode cX6_reaches 18 = .ok (.ireturn, 1) := by decide +kernel
set_option maxRecDepth 20000 in
theorem ggX6_shortenAll_X6_shorten : GoodIn wsX6_shortenAll wsX6_shorten := goodIn_r _ [5, 6, 7, 13, 14] (by decide +kernel) (by decide +kernel)
set_option maxRecDepth 20000 in
theorem gX6_shortenAll_X6_shorten : GoodIn wsX6_shortenAll (wsV RX6 43 RX6 yX6_shorten wsX6_shorten) := goodIn_app (goodIn_of _ (by decide +kernel)) ggX6_shortenAll_X6_shorten
theorem dX6_shortenAll_0 : decode cX6_shortenAll 0 = .ok (.iconst 0, 1) := by decide +kernel
theorem dX6_shortenAll_1 : decode cX6_shortenAll 1 = .ok (.istore_n 3, 1) := by decide +kernel
theorem dX6_shortenAll_2 : decode cX6_shortenAll 2 = .ok (.iconst 0, 1) := by decide +kernel
theorem dX6_shortenAll_3 : decode cX6_shortenAll 3 = .ok (.istore 4, 2) := by decide +kernel
theorem dX6_shortenAll_5 : decode cX6_shortenAll 5 = .ok (.iload 4, 2) := by decide +kernel
theorem dX6_shortenAll_7 : decode cX6_shortenAll 7 = .ok (.aload_n 1, 1) := by decide +kernel
theorem dX6_shortenAll_8 : decode cX6_shortenAll 8 = .ok (.getfield 30, 3) := by decide +kernel
theorem dX6_shortenAll_11 : decode cX6_shortenAll 11 = .ok (.if_icmp .ge 73, 3) := by decide +kernel
theorem dX6_shortenAll_14 : decode cX6_shortenAll 14 = .ok (.iload 4, 2) := by decide +kernel
theorem dX6_shortenAll_16 : decode cX6_shortenAll 16 = .ok (.iload_n 2, 1) := by decide +kernel
theorem dX6_shortenAll_17 : decode cX6_shortenAll 17 = .ok (.if_icmp .eq 61, 3) := by decide +kernel
theorem dX6_shortenAll_20 : decode cX6_shortenAll 20 = .ok (.aload_n 1, 1) := by decide +kernel
theorem dX6_shortenAll_21 : decode cX6_shortenAll 21 = .ok (.getfield 33, 3) := by decide +kernel
theorem dX6_shortenAll_24 : decode cX6_shortenAll 24 = .ok (.iload 4, 2) := by decide +kernel
theorem dX6_shortenAll_26 : decode cX6_shortenAll 26 = .ok (.iaload, 1) := by decide +kernel
theorem dX6_shortenAll_27 : decode cX6_shortenAll 27 = .ok (.istore 5, 2) := by decide +kernel
theorem dX6_shortenAll_29 : decode cX6_shortenAll 29 = .ok (.aload_n 1, 1) := by decide +kernel
theorem dX6_shortenAll_30 : decode cX6_shortenAll 30 = .ok (.getfield 37, 3) := by decide +kernel
theorem dX6_shortenAll_33 : decode cX6_shortenAll 33 = .ok (.iload 4, 2) := by decide +kernel
theorem dX6_shortenAll_35 : decode cX6_shortenAll 35 = .ok (.iaload, 1) := by decide +kernel
theorem dX6_shortenAll_36 : decode cX6_shortenAll 36 = .ok (.istore 6, 2) := by decide +kernel
theorem dX6_shortenAll_38 : decode cX6_shortenAll 38 = .ok (.iload_n 3, 1) := by decide +kernel
theorem dX6_shortenAll_39 : decode cX6_shortenAll 39 = .ok (.aload_n 0, 1) := by decide +kernel
theorem dX6_shortenAll_40 : decode cX6_shortenAll 40 = .ok (.iload 5, 2) := by decide +kernel
theorem dX6_shortenAll_42 : decode cX6_shortenAll 42 = .ok (.iload 6, 2) := by decide +kernel
theorem dX6_shortenAll_44 : decode cX6_shortenAll 44 = .ok (.iload 4, 2) := by decide +kernel
theorem dX6_shortenAll_46 : decode cX6_shortenAll 46 = .ok (.aload_n 1, 1) := by decide +kernel
theorem dX6_shortenAll_47 : decode cX6_shortenAll 47 = .ok (.getfield 40, 3) := by decide +kernel
theorem dX6_shortenAll_50 : decode cX6_shortenAll 50 = .ok (.iload 4, 2) := by decide +kernel
theorem dX6_shortenAll_52 : decode cX6_shortenAll 52 = .ok (.iaload, 1) := by decide +kernel
theorem dX6_shortenAll_53 : decode cX6_shortenAll 53 = .ok (.invokevirtual 43, 3) := by decide +kernel
theorem dX6_shortenAll_56 : decode cX6_shortenAll 56 = .ok (.ior, 1) := by decide +kernel
theorem dX6_shortenAll_57 : decode cX6_shortenAll 57 = .ok (.istore_n 3, 1) := by decide +kernel
theorem dX6_shortenAll_58 : decode cX6_shortenAll 58 = .ok (.iload_n 3, 1) := by decide +kernel
theorem dX6_shortenAll_59 : decode cX6_shortenAll 59 = .ok (.aload_n 0, 1) := by decide +kernel
theorem dX6_shortenAll_60 : decode cX6_shortenAll 60 = .ok (.iload 6, 2) := by decide +kernel
theorem dX6_shortenAll_62 : decode cX6_shortenAll 62 = .ok (.iload 5, 2) := by decide +kernel
theorem dX6_shortenAll_64 : decode cX6_shortenAll 64 = .ok (.iload 4, 2) := by decide +kernel
theorem dX6_shortenAll_66 : decode cX6_shortenAll 66 = .ok (.aload_n 1, 1) := by decide +kernel
theorem dX6_shortenAll_67 : decode cX6_shortenAll 67 = .ok (.getfield 40, 3) := by decide +kernel
theorem dX6_shortenAll_70 : decode cX6_shortenAll 70 = .ok (.iload 4, 2) := by decide +kernel
theorem dX6_shortenAll_72 : decode cX6_shortenAll 72 = .ok (.iaload, 1) := by decide +kernel
theorem dX6_shortenAll_73 : decode cX6_shortenAll 73 = .ok (.invokevirtual 43, 3) := by decide +kernel
theorem dX6_shortenAll_76 : decode cX6_shortenAll 76 = .ok (.ior, 1) := by decide +kernel
theorem dX6_shortenAll_77 : decode cX6_shortenAll 77 = .ok (.istore_n 3, 1) := by decide +kernel
theorem dX6_shortenAll_78 : decode cX6_shortenAll 78 = .ok (.iinc 4 1, 3) := by decide +kernel
theorem dX6_shortenAll_81 : decode cX6_shortenAll 81 = .ok (.goto (-76), 3) := by decide +kernel
theorem dX6_shortenAll_84 : decode cX6_shortenAll 84 = .ok (.iload_n 3, 1) := by decide +kernel
theorem dX6_shortenAll_85 : decode cX6_shortenAll 85 = .ok (.ireturn, 1) := by decide +kernel
theorem dX6_shorten_0 : decode cX6_shorten 0 = .ok (.aload_n 0, 1) := by decide +kernel
theorem dX6_shorten_1 : decode cX6_shorten 1 = .ok (.getfield 9, 3) := by decide +kernel
theorem dX6_shorten_4 : decode cX6_shorten 4 = .ok (.iload_n 1, 1) := by decide +kernel
theorem dX6_shorten_5 : decode cX6_shorten 5 = .ok (.laload, 1) := by decide +kernel
theorem dX6_shorten_6 : decode cX6_shorten 6 = .ok (.iload 4, 2) := by decide +kernel
theorem dX6_shorten_8 : decode cX6_shorten 8 = .ok (.i2l, 1) := by decide +kernel
theorem dX6_shorten_9 : decode cX6_shorten 9 = .ok (.ladd, 1) := by decide +kernel
theorem dX6_shorten_10 : decode cX6_shorten 10 = .ok (.aload_n 0, 1) := by decide +kernel
theorem dX6_shorten_11 : decode cX6_shorten 11 = .ok (.getfield 9, 3) := by decide +kernel
theorem dX6_shorten_14 : decode cX6_shorten 14 = .ok (.iload_n 2, 1) := by decide +kernel
theorem dX6_shorten_15 : decode cX6_shorten 15 = .ok (.laload, 1) := by decide +kernel
theorem dX6_shorten_16 : decode cX6_shorten 16 = .ok (.lcmp, 1) := by decide +kernel
theorem dX6_shorten_17 : decode cX6_shorten 17 = .ok (.ifCond .lt 5, 3) := by decide +kernel
theorem dX6_shorten_20 : decode cX6_shorten 20 = .ok (.iconst 0, 1) := by decide +kernel
theorem dX6_shorten_21 : decode cX6_shorten 21 = .ok (.ireturn, 1) := by decide +kernel
theorem dX6_shorten_22 : decode cX6_shorten 22 = .ok (.aload_n 0, 1) := by decide +kernel
theorem dX6_shorten_23 : decode cX6_shorten 23 = .ok (.getfield 9, 3) := by decide +kernel
theorem dX6_shorten_26 : decode cX6_shorten 26 = .ok (.iload_n 2, 1) := by decide +kernel
theorem dX6_shorten_27 : decode cX6_shorten 27 = .ok (.aload_n 0, 1) := by decide +kernel
theorem dX6_shorten_28 : decode cX6_shorten 28 = .ok (.getfield 9, 3) := by decide +kernel
theorem dX6_shorten_31 : decode cX6_shorten 31 = .ok (.iload_n 1, 1) := by decide +kernel
theorem dX6_shorten_32 : decode cX6_shorten 32 = .ok (.laload, 1) := by decide +kernel
theorem dX6_shorten_33 : decode cX6_shorten 33 = .ok (.iload 4, 2) := by decide +kernel
theorem dX6_shorten_35 : decode cX6_shorten 35 = .ok (.i2l, 1) := by decide +kernel
theorem dX6_shorten_36 : decode cX6_shorten 36 = .ok (.ladd, 1) := by decide +kernel
theorem dX6_shorten_37 : decode cX6_shorten 37 = .ok (.lastore, 1) := by decide +kernel
theorem dX6_shorten_38 : decode cX6_shorten 38 = .ok (.aload_n 0, 1) := by decide +kernel
theorem dX6_shorten_39 : decode cX6_shorten 39 = .ok (.getfield 15, 3) := by decide +kernel
theorem dX6_shorten_42 : decode cX6_shorten 42 = .ok (.iload_n 2, 1) := by decide +kernel
theorem dX6_shorten_43 : decode cX6_shorten 43 = .ok (.aload_n 0, 1) := by decide +kernel
theorem dX6_shorten_44 : decode cX6_shorten 44 = .ok (.getfield 15, 3) := by decide +kernel
theorem dX6_shorten_47 : decode cX6_shorten 47 = .ok (.iload_n 1, 1) := by decide +kernel
theorem dX6_shorten_48 : decode cX6_shorten 48 = .ok (.laload, 1) := by decide +kernel
theorem dX6_shorten_49 : decode cX6_shorten 49 = .ok (.lconst 1, 1) := by decide +kernel
theorem dX6_shorten_50 : decode cX6_shorten 50 = .ok (.iload_n 3, 1) := by decide +kernel
theorem dX6_shorten_51 : decode cX6_shorten 51 = .ok (.lshl, 1) := by decide +kernel
theorem dX6_shorten_52 : decode cX6_shorten 52 = .ok (.lxor, 1) := by decide +kernel
theorem dX6_shorten_53 : decode cX6_shorten 53 = .ok (.lastore, 1) := by decide +kernel
theorem dX6_shorten_54 : decode cX6_shorten 54 = .ok (.iconst 1, 1) := by decide +kernel
theorem dX6_shorten_55 : decode cX6_shorten 55 = .ok (.ireturn, 1) := by decide +kernel
set_option maxRecDepth 20000 in
theorem ggX7_init_X2_init : GoodIn wsX7_init wsX2_init := goodIn_r _ [36, 37, 2, 3, 38, 39, 40, 41, 42, 80, 81, 82, 83, 84] (by decide +kernel) (by decide +kernel)
set_option maxRecDepth 20000 in
theorem gX7_init_X2_init : GoodIn wsX7_init (wsX2_init) := ggX7_init_X2_init
set_option maxRecDepth 20000 in
theorem ggX7_init_X5_init : GoodIn wsX7_init wsX5_init := goodIn_r _ [45, 46, 2, 3, 32, 47, 93, 94, 95] (by decide +kernel) (by decide +kernel)
set_option maxRecDepth 20000 in
theorem gX7_init_X5_init : GoodIn wsX7_init (wsX5_init) := ggX7_init_X5_init
set_option maxRecDepth 20000 in
theorem ggX7_init_X3_init : GoodIn wsX7_init wsX3_init := goodIn_r _ [50, 51, 2, 3, 39, 52, 32, 53, 96, 97, 98, 99] (by decide +kernel) (by decide +kernel)
set_option maxRecDepth 20000 in
theorem gX7_init_X3_init : GoodIn wsX7_init (wsX3_init) := ggX7_init_X3_init
set_option maxRecDepth 20000 in
theorem ggX7_init_X6_init : GoodIn wsX7_init wsX6_init := goodIn_r _ [56, 57, 2, 3, 32, 58, 59, 100, 101] (by decide +kernel) (by decide +kernel)
set_option maxRecDepth 20000 in
theorem gX7_init_X6_init : GoodIn wsX7_init (wsX6_init) := ggX7_init_X6_init
set_option maxRecDepth 20000 in
theorem ggX7_init_X4_init : GoodIn wsX7_init wsX4_init := goodIn_r _ [62, 63, 2, 3, 32, 64, 65, 66, 67, 102, 103, 104, 105, 106, 107] (by decide +kernel) (by decide +kernel)
set_option maxRecDepth 20000 in
theorem gX7_init_X4_init : GoodIn wsX7_init (wsX4_init) := ggX7_init_X4_init
set_option maxRecDepth 20000 in
theorem ggX7_init_X1_init : GoodIn wsX7_init wsX1_init := goodIn_r _ [70, 71, 2, 3, 72, 32, 73, 108] (by decide +kernel) (by decide +kernel)
set_option maxRecDepth 20000 in
theorem gX7_init_X1_init : GoodIn wsX7_init (wsX1_init) := ggX7_init_X1_init
set_option maxRecDepth 20000 in
theorem ggX7_init_X0_init : GoodIn wsX7_init wsX0_init := goodIn_r _ [76, 77, 2, 3, 78, 39, 79, 109] (by decide +kernel) (by decide +kernel)
set_option maxRecDepth 20000 in
theorem gX7_init_X0_init : GoodIn wsX7_init (wsX0_init) := ggX7_init_X0_init
theorem dX7_init_0 : decode cX7_init 0 = .ok (.aload_n 0, 1) := by decide +kernel
theorem dX7_init_1 : decode cX7_init 1 = .ok (.invokespecial 1, 3) := by decide +kernel
theorem dX7_init_4 : decode cX7_init 4 = .ok (.aload_n 0, 1) := by decide +kernel
theorem dX7_init_5 : decode cX7_init 5 = .ok (.new 7, 3) := by decide +kernel
theorem dX7_init_8 : decode cX7_init 8 = .ok (.dup, 1) := by decide +kernel
theorem dX7_init_9 : decode cX7_init 9 = .ok (.invokespecial 9, 3) := by decide +kernel
theorem dX7_init_12 : decode cX7_init 12 = .ok (.putfield 10, 3) := by decide +kernel
theorem dX7_init_15 : decode cX7_init 15 = .ok (.aload_n 0, 1) := by decide +kernel
theorem dX7_init_16 : decode cX7_init 16 = .ok (.new 16, 3) := by decide +kernel
theorem dX7_init_19 : decode cX7_init 19 = .ok (.dup, 1) := by decide +kernel
theorem dX7_init_20 : decode cX7_init 20 = .ok (.invokespecial 18, 3) := by decide +kernel
theorem dX7_init_23 : decode cX7_init 23 = .ok (.putfield 19, 3) := by decide +kernel
theorem dX7_init_26 : decode cX7_init 26 = .ok (.aload_n 0, 1) := by decide +kernel
theorem dX7_init_27 : decode cX7_init 27 = .ok (.new 23, 3) := by decide +kernel
theorem dX7_init_30 : decode cX7_init 30 = .ok (.dup, 1) := by decide +kernel
theorem dX7_init_31 : decode cX7_init 31 = .ok (.invokespecial 25, 3) := by decide +kernel
theorem dX7_init_34 : decode cX7_init 34 = .ok (.putfield 26, 3) := by decide +kernel
theorem dX7_init_37 : decode cX7_init 37 = .ok (.aload_n 0, 1) := by decide +kernel
theorem dX7_init_38 : decode cX7_init 38 = .ok (.new 30, 3) := by decide +kernel
theorem dX7_init_41 : decode cX7_init 41 = .ok (.dup, 1) := by decide +kernel
theorem dX7_init_42 : decode cX7_init 42 = .ok (.invokespecial 32, 3) := by decide +kernel
theorem dX7_init_45 : decode cX7_init 45 = .ok (.putfield 33, 3) := by decide +kernel
theorem dX7_init_48 : decode cX7_init 48 = .ok (.aload_n 0, 1) := by decide +kernel
theorem dX7_init_49 : decode cX7_init 49 = .ok (.new 37, 3) := by decide +kernel
theorem dX7_init_52 : decode cX7_init 52 = .ok (.dup, 1) := by decide +kernel
theorem dX7_init_53 : decode cX7_init 53 = .ok (.invokespecial 39, 3) := by decide +kernel
theorem dX7_init_56 : decode cX7_init 56 = .ok (.putfield 40, 3) := by decide +kernel
theorem dX7_init_59 : decode cX7_init 59 = .ok (.aload_n 0, 1) := by decide +kernel
theorem dX7_init_60 : decode cX7_init 60 = .ok (.new 44, 3) := by decide +kernel
theorem dX7_init_63 : decode cX7_init 63 = .ok (.dup, 1) := by decide +kernel
theorem dX7_init_64 : decode cX7_init 64 = .ok (.invokespecial 46, 3) := by decide +kernel
theorem dX7_init_67 : decode cX7_init 67 = .ok (.putfield 47, 3) := by decide +kernel
theorem dX7_init_70 : decode cX7_init 70 = .ok (.aload_n 0, 1) := by decide +kernel
theorem dX7_init_71 : decode cX7_init 71 = .ok (.new 51, 3) := by decide +kernel
theorem dX7_init_74 : decode cX7_init 74 = .ok (.dup, 1) := by decide +kernel
theorem dX7_init_75 : decode cX7_init 75 = .ok (.invokespecial 53, 3) := by decide +kernel
theorem dX7_init_78 : decode cX7_init 78 = .ok (.putfield 54, 3) := by decide +kernel
theorem dX7_init_81 : decode cX7_init 81 = .ok (.aload_n 0, 1) := by decide +kernel
theorem dX7_init_82 : decode cX7_init 82 = .ok (.bipush 14, 2) := by decide +kernel
theorem dX7_init_84 : decode cX7_init 84 = .ok (.newarray .long, 2) := by decide +kernel
theorem dX7_init_86 : decode cX7_init 86 = .ok (.putfield 58, 3) := by decide +kernel
theorem dX7_init_89 : decode cX7_init 89 = .ok (.return_, 1) := by decide +kernel
set_option maxRecDepth 20000 in
theorem ggX7_reset_X2_begin : GoodIn wsX7_reset wsX2_begin := goodIn_r _ [8, 9, 10, 19, 20, 21, 22, 23] (by decide +kernel) (by decide +kernel)
set_option maxRecDepth 20000 in
theorem gX7_reset_X2_begin : GoodIn wsX7_reset (wsV RX7 73 RX2 yX2_begin wsX2_begin) := goodIn_app (goodIn_of _ (by decide +kernel)) ggX7_reset_X2_begin
theorem dX7_reset_0 : decode cX7_reset 0 = .ok (.iload_n 1, 1) := by decide +kernel
theorem dX7_reset_1 : decode cX7_reset 1 = .ok (.iconst 1, 1) := by decide +kernel
theorem dX7_reset_2 : decode cX7_reset 2 = .ok (.if_icmp .lt 9, 3) := by decide +kernel
theorem dX7_reset_5 : decode cX7_reset 5 = .ok (.iload_n 1, 1) := by decide +kernel
theorem dX7_reset_6 : decode cX7_reset 6 = .ok (.bipush 16, 2) := by decide +kernel
theorem dX7_reset_8 : decode cX7_reset 8 = .ok (.if_icmp .le 13, 3) := by decide +kernel
theorem dX7_reset_11 : decode cX7_reset 11 = .ok (.new 62, 3) := by decide +kernel
theorem dX7_reset_14 : decode cX7_reset 14 = .ok (.dup, 1) := by decide +kernel
theorem dX7_reset_15 : decode cX7_reset 15 = .ok (.ldc 64, 2) := by decide +kernel
theorem dX7_reset_17 : decode cX7_reset 17 = .ok (.invokespecial 66, 3) := by decide +kernel
theorem dX7_reset_20 : decode cX7_reset 20 = .ok (.athrow, 1) := by decide +kernel
theorem dX7_reset_21 : decode cX7_reset 21 = .ok (.aload_n 0, 1) := by decide +kernel
theorem dX7_reset_22 : decode cX7_reset 22 = .ok (.getfield 10, 3) := by decide +kernel
theorem dX7_reset_25 : decode cX7_reset 25 = .ok (.getfield 69, 3) := by decide +kernel
theorem dX7_reset_28 : decode cX7_reset 28 = .ok (.istore_n 2, 1) := by decide +kernel
theorem dX7_reset_29 : decode cX7_reset 29 = .ok (.aload_n 0, 1) := by decide +kernel
theorem dX7_reset_30 : decode cX7_reset 30 = .ok (.getfield 10, 3) := by decide +kernel
theorem dX7_reset_33 : decode cX7_reset 33 = .ok (.iload_n 1, 1) := by decide +kernel
theorem dX7_reset_34 : decode cX7_reset 34 = .ok (.invokevirtual 73, 3) := by decide +kernel
theorem dX7_reset_37 : decode cX7_reset 37 = .ok (.iload_n 2, 1) := by decide +kernel
theorem dX7_reset_38 : decode cX7_reset 38 = .ok (.ireturn, 1) := by decide +kernel
set_option maxRecDepth 20000 in
theorem ggX7_edge_X2_hasVertex : GoodIn wsX7_edge wsX2_hasVertex := goodIn_r _ [12, 13, 64, 65, 66, 67, 68] (by decide +kernel) (by decide +kernel)
set_option maxRecDepth 20000 in
theorem gX7_edge_X2_hasVertex : GoodIn wsX7_edge (wsV RX7 77 RX2 yX2_hasVertex wsX2_hasVertex) := goodIn_app (goodIn_of _ (by decide +kernel)) ggX7_edge_X2_hasVertex
set_option maxRecDepth 20000 in
theorem ggX7_edge_X7_joinWhole : GoodIn wsX7_edge wsX7_joinWhole := goodIn_r _ [18, 5, 19, 20, 21, 17, 22, 7, 23, 24, 25, 26, 27, 28, 29, 30, 31, 32, 33, 34, 35, 36, 37, 38, 39, 40, 41, 42, 43, 44, 45, 46, 56, 57, 58, 59, 60, 61, 62, 63, 64, 65, 66, 67, 68, 69, 70, 71, 72] (by decide +kernel) (by decide +kernel)
set_option maxRecDepth 20000 in
theorem gX7_edge_X7_joinWhole : GoodIn wsX7_edge (wsV RX7 91 RX7 yX7_joinWhole wsX7_joinWhole) := goodIn_app (goodIn_of _ (by decide +kernel)) ggX7_edge_X7_joinWhole
set_option maxRecDepth 20000 in
theorem ggX7_edge_X3_together : GoodIn wsX7_edge wsX3_together := goodIn_r _ [42, 30, 69, 70, 71, 72] (by decide +kernel) (by decide +kernel)
set_option maxRecDepth 20000 in
theorem gX7_edge_X3_together : GoodIn wsX7_edge (wsV RX7 95 RX3 yX3_together wsX3_together) := goodIn_app (goodIn_of _ (by decide +kernel)) ggX7_edge_X3_together
set_option maxRecDepth 20000 in
theorem ggX7_edge_X2_append : GoodIn wsX7_edge wsX2_append := goodIn_r _ [51, 52, 53, 54, 55, 64, 65, 66, 67, 68] (by decide +kernel) (by decide +kernel)
set_option maxRecDepth 20000 in
theorem gX7_edge_X2_append : GoodIn wsX7_edge (wsV RX7 101 RX2 yX2_append wsX2_append) := goodIn_app (goodIn_of _ (by decide +kernel)) ggX7_edge_X2_append
theorem dX7_edge_0 : decode cX7_edge 0 = .ok (.aload_n 0, 1) := by decide +kernel
theorem dX7_edge_1 : decode cX7_edge 1 = .ok (.getfield 10, 3) := by decide +kernel
theorem dX7_edge_4 : decode cX7_edge 4 = .ok (.iload_n 1, 1) := by decide +kernel
theorem dX7_edge_5 : decode cX7_edge 5 = .ok (.invokevirtual 77, 3) := by decide +kernel
theorem dX7_edge_8 : decode cX7_edge 8 = .ok (.ifCond .eq 14, 3) := by decide +kernel
theorem dX7_edge_11 : decode cX7_edge 11 = .ok (.aload_n 0, 1) := by decide +kernel
theorem dX7_edge_12 : decode cX7_edge 12 = .ok (.getfield 10, 3) := by decide +kernel
theorem dX7_edge_15 : decode cX7_edge 15 = .ok (.iload_n 2, 1) := by decide +kernel
theorem dX7_edge_16 : decode cX7_edge 16 = .ok (.invokevirtual 77, 3) := by decide +kernel
theorem dX7_edge_19 : decode cX7_edge 19 = .ok (.ifCond .ne 13, 3) := by decide +kernel
theorem dX7_edge_22 : decode cX7_edge 22 = .ok (.new 62, 3) := by decide +kernel
theorem dX7_edge_25 : decode cX7_edge 25 = .ok (.dup, 1) := by decide +kernel
theorem dX7_edge_26 : decode cX7_edge 26 = .ok (.ldc 81, 2) := by decide +kernel
theorem dX7_edge_28 : decode cX7_edge 28 = .ok (.invokespecial 66, 3) := by decide +kernel
theorem dX7_edge_31 : decode cX7_edge 31 = .ok (.athrow, 1) := by decide +kernel
theorem dX7_edge_32 : decode cX7_edge 32 = .ok (.iload_n 3, 1) := by decide +kernel
theorem dX7_edge_33 : decode cX7_edge 33 = .ok (.ifCond .lt 9, 3) := by decide +kernel
theorem dX7_edge_36 : decode cX7_edge 36 = .ok (.iload_n 3, 1) := by decide +kernel
theorem dX7_edge_37 : decode cX7_edge 37 = .ok (.ldc 83, 2) := by decide +kernel
theorem dX7_edge_39 : decode cX7_edge 39 = .ok (.if_icmp .le 13, 3) := by decide +kernel
theorem dX7_edge_42 : decode cX7_edge 42 = .ok (.new 62, 3) := by decide +kernel
theorem dX7_edge_45 : decode cX7_edge 45 = .ok (.dup, 1) := by decide +kernel
theorem dX7_edge_46 : decode cX7_edge 46 = .ok (.ldc 84, 2) := by decide +kernel
theorem dX7_edge_48 : decode cX7_edge 48 = .ok (.invokespecial 66, 3) := by decide +kernel
theorem dX7_edge_51 : decode cX7_edge 51 = .ok (.athrow, 1) := by decide +kernel
theorem dX7_edge_52 : decode cX7_edge 52 = .ok (.aload_n 0, 1) := by decide +kernel
theorem dX7_edge_53 : decode cX7_edge 53 = .ok (.getfield 10, 3) := by decide +kernel
theorem dX7_edge_56 : decode cX7_edge 56 = .ok (.getfield 69, 3) := by decide +kernel
theorem dX7_edge_59 : decode cX7_edge 59 = .ok (.bipush 40, 2) := by decide +kernel
theorem dX7_edge_61 : decode cX7_edge 61 = .ok (.if_icmp .lt 13, 3) := by decide +kernel
theorem dX7_edge_64 : decode cX7_edge 64 = .ok (.new 86, 3) := by decide +kernel
theorem dX7_edge_67 : decode cX7_edge 67 = .ok (.dup, 1) := by decide +kernel
theorem dX7_edge_68 : decode cX7_edge 68 = .ok (.ldc 88, 2) := by decide +kernel
theorem dX7_edge_70 : decode cX7_edge 70 = .ok (.invokespecial 90, 3) := by decide +kernel
theorem dX7_edge_73 : decode cX7_edge 73 = .ok (.athrow, 1) := by decide +kernel
theorem dX7_edge_74 : decode cX7_edge 74 = .ok (.aload_n 0, 1) := by decide +kernel
theorem dX7_edge_75 : decode cX7_edge 75 = .ok (.invokevirtual 91, 3) := by decide +kernel
theorem dX7_edge_78 : decode cX7_edge 78 = .ok (.bipush 14, 2) := by decide +kernel
theorem dX7_edge_80 : decode cX7_edge 80 = .ok (.if_icmp .lt 25, 3) := by decide +kernel
theorem dX7_edge_83 : decode cX7_edge 83 = .ok (.aload_n 0, 1) := by decide +kernel
theorem dX7_edge_84 : decode cX7_edge 84 = .ok (.getfield 26, 3) := by decide +kernel
theorem dX7_edge_87 : decode cX7_edge 87 = .ok (.iload_n 1, 1) := by decide +kernel
end
section
theorem dX7_edge_88 : decode cX7_edge 88 = .ok (.iload_n 2, 1) := by decide +kernel
theorem dX7_edge_89 : decode cX7_edge 89 = .ok (.invokevirtual 95, 3) := by decide +kernel
theorem dX7_edge_92 : decode cX7_edge 92 = .ok (.ifCond .eq 13, 3) := by decide +kernel
theorem dX7_edge_95 : decode cX7_edge 95 = .ok (.new 86, 3) := by decide +kernel
theorem dX7_edge_98 : decode cX7_edge 98 = .ok (.dup, 1) := by decide +kernel
theorem dX7_edge_99 : decode cX7_edge 99 = .ok (.ldc 99, 2) := by decide +kernel
theorem dX7_edge_101 : decode cX7_edge 101 = .ok (.invokespecial 90, 3) := by decide +kernel
theorem dX7_edge_104 : decode cX7_edge 104 = .ok (.athrow, 1) := by decide +kernel
theorem dX7_edge_105 : decode cX7_edge 105 = .ok (.aload_n 0, 1) := by decide +kernel
theorem dX7_edge_106 : decode cX7_edge 106 = .ok (.getfield 10, 3) := by decide +kernel
theorem dX7_edge_109 : decode cX7_edge 109 = .ok (.iload_n 1, 1) := by decide +kernel
theorem dX7_edge_110 : decode cX7_edge 110 = .ok (.iload_n 2, 1) := by decide +kernel
theorem dX7_edge_111 : decode cX7_edge 111 = .ok (.iload_n 3, 1) := by decide +kernel
theorem dX7_edge_112 : decode cX7_edge 112 = .ok (.invokevirtual 101, 3) := by decide +kernel
theorem dX7_edge_115 : decode cX7_edge 115 = .ok (.ireturn, 1) := by decide +kernel
set_option maxRecDepth 20000 in
theorem ggX7_drop_X2_removeLast : GoodIn wsX7_drop wsX2_removeLast := goodIn_r _ [8, 9, 18, 19, 20, 21, 22] (by decide +kernel) (by decide +kernel)
set_option maxRecDepth 20000 in
theorem gX7_drop_X2_removeLast : GoodIn wsX7_drop (wsV RX7 107 RX2 yX2_removeLast wsX2_removeLast) := goodIn_app (goodIn_of _ (by decide +kernel)) ggX7_drop_X2_removeLast
theorem dX7_drop_0 : decode cX7_drop 0 = .ok (.aload_n 0, 1) := by decide +kernel
theorem dX7_drop_1 : decode cX7_drop 1 = .ok (.getfield 10, 3) := by decide +kernel
theorem dX7_drop_4 : decode cX7_drop 4 = .ok (.getfield 69, 3) := by decide +kernel
theorem dX7_drop_7 : decode cX7_drop 7 = .ok (.ifCond .ne 13, 3) := by decide +kernel
theorem dX7_drop_10 : decode cX7_drop 10 = .ok (.new 86, 3) := by decide +kernel
theorem dX7_drop_13 : decode cX7_drop 13 = .ok (.dup, 1) := by decide +kernel
theorem dX7_drop_14 : decode cX7_drop 14 = .ok (.ldc 105, 2) := by decide +kernel
theorem dX7_drop_16 : decode cX7_drop 16 = .ok (.invokespecial 90, 3) := by decide +kernel
theorem dX7_drop_19 : decode cX7_drop 19 = .ok (.athrow, 1) := by decide +kernel
theorem dX7_drop_20 : decode cX7_drop 20 = .ok (.aload_n 0, 1) := by decide +kernel
theorem dX7_drop_21 : decode cX7_drop 21 = .ok (.getfield 10, 3) := by decide +kernel
theorem dX7_drop_24 : decode cX7_drop 24 = .ok (.invokevirtual 107, 3) := by decide +kernel
theorem dX7_drop_27 : decode cX7_drop 27 = .ok (.ireturn, 1) := by decide +kernel
set_option maxRecDepth 20000 in
theorem ggX7_forests_X7_checkEdges : GoodIn wsX7_forests wsX7_checkEdges := goodIn_ca (goodIn_r _ [8, 9, 10, 2, 57, 58, 59, 60, 61, 62, 63, 64, 65, 66, 67, 68, 69] (by decide +kernel) (by decide +kernel)) (goodIn_sub (fun _ h => List.mem_cons_of_mem _ (List.mem_append_right _ h)) (by decide +kernel))
set_option maxRecDepth 20000 in
theorem gX7_forests_X7_checkEdges : GoodIn wsX7_forests (wsV RX7 110 RX7 yX7_checkEdges wsX7_checkEdges) := goodIn_app (goodIn_of _ (by decide +kernel)) ggX7_forests_X7_checkEdges
set_option maxRecDepth 20000 in
theorem ggX7_forests_X7_joinSet : GoodIn wsX7_forests wsX7_joinSet := goodIn_r _ [14, 3, 2, 15, 16, 17, 18, 19, 20, 21, 22, 23, 24, 25, 7, 26, 27, 28, 29, 30, 31, 32, 33, 34, 35, 36, 37, 38, 57, 58, 59, 60, 61, 62, 63, 64, 65, 66, 67, 68, 69, 70, 71, 72, 73] (by decide +kernel) (by decide +kernel)
set_option maxRecDepth 20000 in
theorem gX7_forests_X7_joinSet : GoodIn wsX7_forests (wsV RX7 114 RX7 yX7_joinSet wsX7_joinSet) := goodIn_app (goodIn_of _ (by decide +kernel)) ggX7_forests_X7_joinSet
set_option maxRecDepth 20000 in
theorem ggX7_forests_X1_count : GoodIn wsX7_forests wsX1_count := goodIn_r _ [43, 44, 45, 46, 47, 48, 49, 50, 51, 42, 52, 53, 54, 55, 56, 65, 66, 67, 68, 69, 74, 70, 71, 72, 73] (by decide +kernel) (by decide +kernel)
set_option maxRecDepth 20000 in
theorem gX7_forests_X1_count : GoodIn wsX7_forests (wsV RX7 118 RX1 yX1_count wsX1_count) := goodIn_app (goodIn_of _ (by decide +kernel)) ggX7_forests_X1_count
theorem dX7_forests_0 : decode cX7_forests 0 = .ok (.aload_n 0, 1) := by decide +kernel
theorem dX7_forests_1 : decode cX7_forests 1 = .ok (.lload_n 1, 1) := by decide +kernel
theorem dX7_forests_2 : decode cX7_forests 2 = .ok (.invokevirtual 110, 3) := by decide +kernel
theorem dX7_forests_5 : decode cX7_forests 5 = .ok (.aload_n 0, 1) := by decide +kernel
theorem dX7_forests_6 : decode cX7_forests 6 = .ok (.lload_n 1, 1) := by decide +kernel
theorem dX7_forests_7 : decode cX7_forests 7 = .ok (.invokevirtual 114, 3) := by decide +kernel
theorem dX7_forests_10 : decode cX7_forests 10 = .ok (.ifCond .eq 5, 3) := by decide +kernel
theorem dX7_forests_13 : decode cX7_forests 13 = .ok (.lconst 0, 1) := by decide +kernel
theorem dX7_forests_14 : decode cX7_forests 14 = .ok (.lreturn, 1) := by decide +kernel
theorem dX7_forests_15 : decode cX7_forests 15 = .ok (.aload_n 0, 1) := by decide +kernel
theorem dX7_forests_16 : decode cX7_forests 16 = .ok (.getfield 47, 3) := by decide +kernel
theorem dX7_forests_19 : decode cX7_forests 19 = .ok (.aload_n 0, 1) := by decide +kernel
theorem dX7_forests_20 : decode cX7_forests 20 = .ok (.getfield 10, 3) := by decide +kernel
theorem dX7_forests_23 : decode cX7_forests 23 = .ok (.aload_n 0, 1) := by decide +kernel
theorem dX7_forests_24 : decode cX7_forests 24 = .ok (.getfield 26, 3) := by decide +kernel
theorem dX7_forests_27 : decode cX7_forests 27 = .ok (.invokevirtual 118, 3) := by decide +kernel
theorem dX7_forests_30 : decode cX7_forests 30 = .ok (.lreturn, 1) := by decide +kernel
set_option maxRecDepth 20000 in
theorem ggX7_lightest_X7_checkEdges : GoodIn wsX7_lightest wsX7_checkEdges := goodIn_ca (goodIn_r _ [7, 8, 9, 2, 73, 74, 75, 76, 77, 78, 79, 80, 81, 82, 83, 84, 85] (by decide +kernel) (by decide +kernel)) (goodIn_sub (fun _ h => List.mem_cons_of_mem _ (List.mem_append_right _ h)) (by decide +kernel))
set_option maxRecDepth 20000 in
theorem gX7_lightest_X7_checkEdges : GoodIn wsX7_lightest (wsV RX7 110 RX7 yX7_checkEdges wsX7_checkEdges) := goodIn_app (goodIn_of _ (by decide +kernel)) ggX7_lightest_X7_checkEdges
set_option maxRecDepth 20000 in
theorem ggX7_lightest_X7_joinSet : GoodIn wsX7_lightest wsX7_joinSet := goodIn_r _ [13, 14, 2, 15, 16, 17, 18, 19, 20, 21, 22, 23, 24, 25, 6, 26, 27, 28, 29, 30, 31, 32, 33, 34, 35, 36, 37, 38, 73, 74, 75, 76, 77, 78, 79, 80, 81, 82, 83, 84, 85, 86, 87, 88, 89] (by decide +kernel) (by decide +kernel)
set_option maxRecDepth 20000 in
theorem gX7_lightest_X7_joinSet : GoodIn wsX7_lightest (wsV RX7 114 RX7 yX7_joinSet wsX7_joinSet) := goodIn_app (goodIn_of _ (by decide +kernel)) ggX7_lightest_X7_joinSet
set_option maxRecDepth 20000 in
theorem ggX7_lightest_X2_weigh : GoodIn wsX7_lightest wsX2_weigh := goodIn_r _ [43, 44, 45, 46, 42, 47, 48, 49, 50, 51, 52, 53, 54, 55, 56, 57, 58, 59, 60, 61, 62, 63, 25, 6, 26, 81, 82, 83, 84, 85] (by decide +kernel) (by decide +kernel)
set_option maxRecDepth 20000 in
theorem gX7_lightest_X2_weigh : GoodIn wsX7_lightest (wsV RX7 124 RX2 yX2_weigh wsX2_weigh) := goodIn_app (goodIn_of _ (by decide +kernel)) ggX7_lightest_X2_weigh
set_option maxRecDepth 20000 in
theorem ggX7_lightest_X7_weightOfLightestJoins : GoodIn wsX7_lightest wsX7_weightOfLightestJoins := goodIn_r _ [67, 2, 14, 68, 69, 70, 6, 71, 72, 32, 33, 18, 34, 22, 27, 28, 29, 30, 23, 31, 35, 36, 37, 38, 20, 21, 73, 74, 75, 76, 77, 78, 79, 80, 81, 82, 83, 84, 85, 86, 87, 88, 89] (by decide +kernel) (by decide +kernel)
set_option maxRecDepth 20000 in
theorem gX7_lightest_X7_weightOfLightestJoins : GoodIn wsX7_lightest (wsV RX7 128 RX7 yX7_weightOfLightestJoins wsX7_weightOfLightestJoins) := goodIn_app (goodIn_of _ (by decide +kernel)) ggX7_lightest_X7_weightOfLightestJoins
theorem dX7_lightest_0 : decode cX7_lightest 0 = .ok (.aload_n 0, 1) := by decide +kernel
theorem dX7_lightest_1 : decode cX7_lightest 1 = .ok (.lload_n 1, 1) := by decide +kernel
theorem dX7_lightest_2 : decode cX7_lightest 2 = .ok (.invokevirtual 110, 3) := by decide +kernel
theorem dX7_lightest_5 : decode cX7_lightest 5 = .ok (.aload_n 0, 1) := by decide +kernel
theorem dX7_lightest_6 : decode cX7_lightest 6 = .ok (.lload_n 1, 1) := by decide +kernel
theorem dX7_lightest_7 : decode cX7_lightest 7 = .ok (.invokevirtual 114, 3) := by decide +kernel
theorem dX7_lightest_10 : decode cX7_lightest 10 = .ok (.ifCond .eq 7, 3) := by decide +kernel
theorem dX7_lightest_13 : decode cX7_lightest 13 = .ok (.ldc2_w 122, 3) := by decide +kernel
theorem dX7_lightest_16 : decode cX7_lightest 16 = .ok (.lreturn, 1) := by decide +kernel
theorem dX7_lightest_17 : decode cX7_lightest 17 = .ok (.aload_n 0, 1) := by decide +kernel
theorem dX7_lightest_18 : decode cX7_lightest 18 = .ok (.getfield 10, 3) := by decide +kernel
theorem dX7_lightest_21 : decode cX7_lightest 21 = .ok (.lload_n 1, 1) := by decide +kernel
theorem dX7_lightest_22 : decode cX7_lightest 22 = .ok (.invokevirtual 124, 3) := by decide +kernel
theorem dX7_lightest_25 : decode cX7_lightest 25 = .ok (.aload_n 0, 1) := by decide +kernel
theorem dX7_lightest_26 : decode cX7_lightest 26 = .ok (.invokevirtual 128, 3) := by decide +kernel
theorem dX7_lightest_29 : decode cX7_lightest 29 = .ok (.ladd, 1) := by decide +kernel
theorem dX7_lightest_30 : decode cX7_lightest 30 = .ok (.lreturn, 1) := by decide +kernel
set_option maxRecDepth 20000 in
theorem ggX7_isCycle_X7_checkEdges : GoodIn wsX7_isCycle wsX7_checkEdges := goodIn_ca (goodIn_r _ [6, 7, 8, 1, 46, 47, 48, 49, 50, 51, 52, 53, 54, 55, 56, 57, 58] (by decide +kernel) (by decide +kernel)) (goodIn_sub (fun _ h => List.mem_cons_of_mem _ (List.mem_append_right _ h)) (by decide +kernel))
set_option maxRecDepth 20000 in
theorem gX7_isCycle_X7_checkEdges : GoodIn wsX7_isCycle (wsV RX7 110 RX7 yX7_checkEdges wsX7_checkEdges) := goodIn_app (goodIn_of _ (by decide +kernel)) ggX7_isCycle_X7_checkEdges
set_option maxRecDepth 20000 in
theorem ggX7_isCycle_X2_isEven : GoodIn wsX7_isCycle wsX2_isEven := goodIn_r _ [13, 14, 15, 16, 17, 5, 18, 54, 55, 56, 57, 58] (by decide +kernel) (by decide +kernel)
set_option maxRecDepth 20000 in
theorem gX7_isCycle_X2_isEven : GoodIn wsX7_isCycle (wsV RX7 132 RX2 yX2_isEven wsX2_isEven) := goodIn_app (goodIn_of _ (by decide +kernel)) ggX7_isCycle_X2_isEven
set_option maxRecDepth 20000 in
theorem ggX7_isCycle_X7_joinSet : GoodIn wsX7_isCycle wsX7_joinSet := goodIn_r _ [22, 23, 1, 24, 25, 26, 27, 28, 29, 30, 31, 32, 33, 17, 5, 18, 34, 35, 36, 37, 38, 39, 40, 41, 42, 43, 44, 45, 46, 47, 48, 49, 50, 51, 52, 53, 54, 55, 56, 57, 58, 59, 60, 61, 62] (by decide +kernel) (by decide +kernel)
set_option maxRecDepth 20000 in
theorem gX7_isCycle_X7_joinSet : GoodIn wsX7_isCycle (wsV RX7 114 RX7 yX7_joinSet wsX7_joinSet) := goodIn_app (goodIn_of _ (by decide +kernel)) ggX7_isCycle_X7_joinSet
theorem dX7_isCycle_0 : decode cX7_isCycle 0 = .ok (.aload_n 0, 1) := by decide +kernel
theorem dX7_isCycle_1 : decode cX7_isCycle 1 = .ok (.lload_n 1, 1) := by decide +kernel
theorem dX7_isCycle_2 : decode cX7_isCycle 2 = .ok (.invokevirtual 110, 3) := by decide +kernel
theorem dX7_isCycle_5 : decode cX7_isCycle 5 = .ok (.aload_n 0, 1) := by decide +kernel
theorem dX7_isCycle_6 : decode cX7_isCycle 6 = .ok (.getfield 10, 3) := by decide +kernel
theorem dX7_isCycle_9 : decode cX7_isCycle 9 = .ok (.lload_n 1, 1) := by decide +kernel
theorem dX7_isCycle_10 : decode cX7_isCycle 10 = .ok (.invokevirtual 132, 3) := by decide +kernel
theorem dX7_isCycle_13 : decode cX7_isCycle 13 = .ok (.ifCond .ne 5, 3) := by decide +kernel
theorem dX7_isCycle_16 : decode cX7_isCycle 16 = .ok (.iconst 0, 1) := by decide +kernel
theorem dX7_isCycle_17 : decode cX7_isCycle 17 = .ok (.ireturn, 1) := by decide +kernel
theorem dX7_isCycle_18 : decode cX7_isCycle 18 = .ok (.aload_n 0, 1) := by decide +kernel
theorem dX7_isCycle_19 : decode cX7_isCycle 19 = .ok (.lload_n 1, 1) := by decide +kernel
theorem dX7_isCycle_20 : decode cX7_isCycle 20 = .ok (.invokevirtual 114, 3) := by decide +kernel
theorem dX7_isCycle_23 : decode cX7_isCycle 23 = .ok (.iconst 1, 1) := by decide +kernel
theorem dX7_isCycle_24 : decode cX7_isCycle 24 = .ok (.if_icmp .ne 7, 3) := by decide +kernel
theorem dX7_isCycle_27 : decode cX7_isCycle 27 = .ok (.iconst 2, 1) := by decide +kernel
theorem dX7_isCycle_28 : decode cX7_isCycle 28 = .ok (.goto 4, 3) := by decide +kernel
theorem dX7_isCycle_31 : decode cX7_isCycle 31 = .ok (.iconst 1, 1) := by decide +kernel
theorem dX7_isCycle_32 : decode cX7_isCycle 32 = .ok (.ireturn, 1) := by decide +kernel
set_option maxRecDepth 20000 in
theorem ggX7_through_X6_seek : GoodIn wsX7_through wsX6_seek := goodIn_r _ [10, 11, 12, 13, 14, 15, 16, 9, 17, 18, 19, 20, 21, 34, 35, 36, 37, 38, 39, 40] (by decide +kernel) (by decide +kernel)
set_option maxRecDepth 20000 in
theorem gX7_through_X6_seek : GoodIn wsX7_through (wsV RX7 145 RX6 yX6_seek wsX6_seek) := goodIn_app (goodIn_of _ (by decide +kernel)) ggX7_through_X6_seek
set_option maxRecDepth 20000 in
theorem ggX7_through_X6_reaches : GoodIn wsX7_through wsX6_reaches := goodIn_r _ [25, 11, 12, 39, 40] (by decide +kernel) (by decide +kernel)
set_option maxRecDepth 20000 in
theorem gX7_through_X6_reaches : GoodIn wsX7_through (wsV RX7 152 RX6 yX6_reaches wsX6_reaches) := goodIn_app (goodIn_of _ (by decide +kernel)) ggX7_through_X6_reaches
theorem dX7_through_0 : decode cX7_through 0 = .ok (.iload_n 1, 1) := by decide +kernel
theorem dX7_through_1 : decode cX7_through 1 = .ok (.ifCond .lt 14, 3) := by decide +kernel
theorem dX7_through_4 : decode cX7_through 4 = .ok (.iload_n 1, 1) := by decide +kernel
theorem dX7_through_5 : decode cX7_through 5 = .ok (.aload_n 0, 1) := by decide +kernel
theorem dX7_through_6 : decode cX7_through 6 = .ok (.getfield 10, 3) := by decide +kernel
theorem dX7_through_9 : decode cX7_through 9 = .ok (.getfield 69, 3) := by decide +kernel
theorem dX7_through_12 : decode cX7_through 12 = .ok (.if_icmp .lt 13, 3) := by decide +kernel
theorem dX7_through_15 : decode cX7_through 15 = .ok (.new 136, 3) := by decide +kernel
theorem dX7_through_18 : decode cX7_through 18 = .ok (.dup, 1) := by decide +kernel
theorem dX7_through_19 : decode cX7_through 19 = .ok (.ldc 138, 2) := by decide +kernel
theorem dX7_through_21 : decode cX7_through 21 = .ok (.invokespecial 140, 3) := by decide +kernel
theorem dX7_through_24 : decode cX7_through 24 = .ok (.athrow, 1) := by decide +kernel
theorem dX7_through_25 : decode cX7_through 25 = .ok (.aload_n 0, 1) := by decide +kernel
theorem dX7_through_26 : decode cX7_through 26 = .ok (.getfield 33, 3) := by decide +kernel
theorem dX7_through_29 : decode cX7_through 29 = .ok (.aload_n 0, 1) := by decide +kernel
theorem dX7_through_30 : decode cX7_through 30 = .ok (.getfield 10, 3) := by decide +kernel
theorem dX7_through_33 : decode cX7_through 33 = .ok (.aload_n 0, 1) := by decide +kernel
theorem dX7_through_34 : decode cX7_through 34 = .ok (.getfield 10, 3) := by decide +kernel
theorem dX7_through_37 : decode cX7_through 37 = .ok (.getfield 141, 3) := by decide +kernel
theorem dX7_through_40 : decode cX7_through 40 = .ok (.iload_n 1, 1) := by decide +kernel
theorem dX7_through_41 : decode cX7_through 41 = .ok (.iaload, 1) := by decide +kernel
theorem dX7_through_42 : decode cX7_through 42 = .ok (.iload_n 1, 1) := by decide +kernel
theorem dX7_through_43 : decode cX7_through 43 = .ok (.invokevirtual 145, 3) := by decide +kernel
theorem dX7_through_46 : decode cX7_through 46 = .ok (.aload_n 0, 1) := by decide +kernel
theorem dX7_through_47 : decode cX7_through 47 = .ok (.getfield 10, 3) := by decide +kernel
theorem dX7_through_50 : decode cX7_through 50 = .ok (.getfield 149, 3) := by decide +kernel
theorem dX7_through_53 : decode cX7_through 53 = .ok (.iload_n 1, 1) := by decide +kernel
theorem dX7_through_54 : decode cX7_through 54 = .ok (.iaload, 1) := by decide +kernel
theorem dX7_through_55 : decode cX7_through 55 = .ok (.istore_n 2, 1) := by decide +kernel
theorem dX7_through_56 : decode cX7_through 56 = .ok (.aload_n 0, 1) := by decide +kernel
theorem dX7_through_57 : decode cX7_through 57 = .ok (.getfield 33, 3) := by decide +kernel
theorem dX7_through_60 : decode cX7_through 60 = .ok (.iload_n 2, 1) := by decide +kernel
theorem dX7_through_61 : decode cX7_through 61 = .ok (.invokevirtual 152, 3) := by decide +kernel
theorem dX7_through_64 : decode cX7_through 64 = .ok (.ifCond .eq 26, 3) := by decide +kernel
theorem dX7_through_67 : decode cX7_through 67 = .ok (.aload_n 0, 1) := by decide +kernel
theorem dX7_through_68 : decode cX7_through 68 = .ok (.getfield 33, 3) := by decide +kernel
theorem dX7_through_71 : decode cX7_through 71 = .ok (.getfield 155, 3) := by decide +kernel
theorem dX7_through_74 : decode cX7_through 74 = .ok (.iload_n 2, 1) := by decide +kernel
theorem dX7_through_75 : decode cX7_through 75 = .ok (.laload, 1) := by decide +kernel
theorem dX7_through_76 : decode cX7_through 76 = .ok (.aload_n 0, 1) := by decide +kernel
theorem dX7_through_77 : decode cX7_through 77 = .ok (.getfield 10, 3) := by decide +kernel
theorem dX7_through_80 : decode cX7_through 80 = .ok (.getfield 158, 3) := by decide +kernel
theorem dX7_through_83 : decode cX7_through 83 = .ok (.iload_n 1, 1) := by decide +kernel
theorem dX7_through_84 : decode cX7_through 84 = .ok (.iaload, 1) := by decide +kernel
theorem dX7_through_85 : decode cX7_through 85 = .ok (.i2l, 1) := by decide +kernel
theorem dX7_through_86 : decode cX7_through 86 = .ok (.ladd, 1) := by decide +kernel
theorem dX7_through_87 : decode cX7_through 87 = .ok (.goto 6, 3) := by decide +kernel
theorem dX7_through_90 : decode cX7_through 90 = .ok (.ldc2_w 122, 3) := by decide +kernel
theorem dX7_through_93 : decode cX7_through 93 = .ok (.lreturn, 1) := by decide +kernel
set_option maxRecDepth 20000 in
theorem ggX7_basis_X7_joinWhole : GoodIn wsX7_basis wsX7_joinWhole := goodIn_r _ [10, 4, 11, 12, 13, 9, 14, 15, 16, 17, 18, 19, 20, 21, 22, 23, 24, 25, 26, 27, 28, 29, 30, 31, 32, 33, 34, 35, 36, 37, 38, 39, 90, 91, 92, 93, 94, 95, 96, 97, 104, 105, 106, 107, 108, 109, 110, 111, 112] (by decide +kernel) (by decide +kernel)
set_option maxRecDepth 20000 in
theorem gX7_basis_X7_joinWhole : GoodIn wsX7_basis (wsV RX7 91 RX7 yX7_joinWhole wsX7_joinWhole) := goodIn_app (goodIn_of _ (by decide +kernel)) ggX7_basis_X7_joinWhole
set_option maxRecDepth 20000 in
theorem ggX7_basis_X4_find : GoodIn wsX7_basis wsX4_find := goodIn_r _ [44, 45, 46, 47, 48, 49, 50, 51, 52, 43, 53, 54, 55, 56, 57, 58, 59, 60, 61, 62, 63, 64, 65, 66, 67, 68, 69, 70, 71, 72, 73, 74, 75, 76, 77, 78, 79, 80, 81, 82, 83, 84, 85, 86, 87, 88, 89, 98, 99, 100, 101, 102, 103, 104, 105, 106, 107, 108, 113, 114] (by decide +kernel) (by decide +kernel)
set_option maxRecDepth 20000 in
theorem gX7_basis_X4_find : GoodIn wsX7_basis (wsV RX7 163 RX4 yX4_find wsX4_find) := goodIn_app (goodIn_of _ (by decide +kernel)) ggX7_basis_X4_find
theorem dX7_basis_0 : decode cX7_basis 0 = .ok (.iload_n 1, 1) := by decide +kernel
theorem dX7_basis_1 : decode cX7_basis 1 = .ok (.ifCond .lt 11, 3) := by decide +kernel
theorem dX7_basis_4 : decode cX7_basis 4 = .ok (.iload_n 1, 1) := by decide +kernel
theorem dX7_basis_5 : decode cX7_basis 5 = .ok (.aload_n 0, 1) := by decide +kernel
theorem dX7_basis_6 : decode cX7_basis 6 = .ok (.invokevirtual 91, 3) := by decide +kernel
theorem dX7_basis_9 : decode cX7_basis 9 = .ok (.if_icmp .lt 13, 3) := by decide +kernel
theorem dX7_basis_12 : decode cX7_basis 12 = .ok (.new 136, 3) := by decide +kernel
theorem dX7_basis_15 : decode cX7_basis 15 = .ok (.dup, 1) := by decide +kernel
theorem dX7_basis_16 : decode cX7_basis 16 = .ok (.ldc 161, 2) := by decide +kernel
theorem dX7_basis_18 : decode cX7_basis 18 = .ok (.invokespecial 140, 3) := by decide +kernel
theorem dX7_basis_21 : decode cX7_basis 21 = .ok (.athrow, 1) := by decide +kernel
theorem dX7_basis_22 : decode cX7_basis 22 = .ok (.aload_n 0, 1) := by decide +kernel
theorem dX7_basis_23 : decode cX7_basis 23 = .ok (.getfield 40, 3) := by decide +kernel
theorem dX7_basis_26 : decode cX7_basis 26 = .ok (.aload_n 0, 1) := by decide +kernel
theorem dX7_basis_27 : decode cX7_basis 27 = .ok (.getfield 10, 3) := by decide +kernel
theorem dX7_basis_30 : decode cX7_basis 30 = .ok (.aload_n 0, 1) := by decide +kernel
theorem dX7_basis_31 : decode cX7_basis 31 = .ok (.getfield 33, 3) := by decide +kernel
theorem dX7_basis_34 : decode cX7_basis 34 = .ok (.invokevirtual 163, 3) := by decide +kernel
theorem dX7_basis_37 : decode cX7_basis 37 = .ok (.aload_n 0, 1) := by decide +kernel
theorem dX7_basis_38 : decode cX7_basis 38 = .ok (.getfield 40, 3) := by decide +kernel
theorem dX7_basis_41 : decode cX7_basis 41 = .ok (.getfield 167, 3) := by decide +kernel
theorem dX7_basis_44 : decode cX7_basis 44 = .ok (.iload_n 1, 1) := by decide +kernel
theorem dX7_basis_45 : decode cX7_basis 45 = .ok (.laload, 1) := by decide +kernel
theorem dX7_basis_46 : decode cX7_basis 46 = .ok (.lreturn, 1) := by decide +kernel
set_option maxRecDepth 20000 in
theorem ggX7_belongs_X7_checkEdges : GoodIn wsX7_belongs wsX7_checkEdges := goodIn_ca (goodIn_r _ [8, 9, 10, 1, 99, 100, 101, 102, 103, 104, 105, 106, 107, 108, 109, 110, 111] (by decide +kernel) (by decide +kernel)) (goodIn_sub (fun _ h => List.mem_cons_of_mem _ (List.mem_append_right _ h)) (by decide +kernel))
set_option maxRecDepth 20000 in
theorem gX7_belongs_X7_checkEdges : GoodIn wsX7_belongs (wsV RX7 110 RX7 yX7_checkEdges wsX7_checkEdges) := goodIn_app (goodIn_of _ (by decide +kernel)) ggX7_belongs_X7_checkEdges
set_option maxRecDepth 20000 in
theorem ggX7_belongs_X2_isEven : GoodIn wsX7_belongs wsX2_isEven := goodIn_r _ [15, 16, 17, 18, 19, 7, 20, 107, 108, 109, 110, 111] (by decide +kernel) (by decide +kernel)
set_option maxRecDepth 20000 in
theorem gX7_belongs_X2_isEven : GoodIn wsX7_belongs (wsV RX7 132 RX2 yX2_isEven wsX2_isEven) := goodIn_app (goodIn_of _ (by decide +kernel)) ggX7_belongs_X2_isEven
set_option maxRecDepth 20000 in
theorem ggX7_belongs_X4_find : GoodIn wsX7_belongs wsX4_find := goodIn_r _ [25, 26, 27, 28, 29, 30, 31, 32, 33, 24, 34, 35, 36, 37, 38, 39, 40, 41, 42, 43, 44, 45, 46, 47, 48, 49, 50, 51, 52, 53, 54, 55, 56, 57, 58, 59, 60, 61, 62, 63, 64, 65, 66, 67, 68, 69, 70, 112, 113, 114, 115, 116, 117, 107, 108, 109, 110, 111, 118, 119] (by decide +kernel) (by decide +kernel)
set_option maxRecDepth 20000 in
theorem gX7_belongs_X4_find : GoodIn wsX7_belongs (wsV RX7 163 RX4 yX4_find wsX4_find) := goodIn_app (goodIn_of _ (by decide +kernel)) ggX7_belongs_X4_find
set_option maxRecDepth 20000 in
theorem ggX7_belongs_X2_weigh : GoodIn wsX7_belongs wsX2_weigh := goodIn_r _ [74, 75, 76, 77, 14, 78, 79, 80, 81, 82, 83, 84, 85, 86, 87, 88, 89, 90, 91, 92, 93, 94, 19, 7, 20, 107, 108, 109, 110, 111] (by decide +kernel) (by decide +kernel)
set_option maxRecDepth 20000 in
theorem gX7_belongs_X2_weigh : GoodIn wsX7_belongs (wsV RX7 124 RX2 yX2_weigh wsX2_weigh) := goodIn_app (goodIn_of _ (by decide +kernel)) ggX7_belongs_X2_weigh
set_option maxRecDepth 20000 in
theorem ggX7_belongs_X4_isSumOfLighter : GoodIn wsX7_belongs wsX4_isSumOfLighter := goodIn_r _ [98, 26, 29, 27, 68, 69, 24, 70, 112, 113, 114, 115, 116, 117] (by decide +kernel) (by decide +kernel)
set_option maxRecDepth 20000 in
theorem gX7_belongs_X4_isSumOfLighter : GoodIn wsX7_belongs (wsV RX7 169 RX4 yX4_isSumOfLighter wsX4_isSumOfLighter) := goodIn_app (goodIn_of _ (by decide +kernel)) ggX7_belongs_X4_isSumOfLighter
theorem dX7_belongs_0 : decode cX7_belongs 0 = .ok (.aload_n 0, 1) := by decide +kernel
theorem dX7_belongs_1 : decode cX7_belongs 1 = .ok (.lload_n 1, 1) := by decide +kernel
theorem dX7_belongs_2 : decode cX7_belongs 2 = .ok (.invokevirtual 110, 3) := by decide +kernel
theorem dX7_belongs_5 : decode cX7_belongs 5 = .ok (.aload_n 0, 1) := by decide +kernel
theorem dX7_belongs_6 : decode cX7_belongs 6 = .ok (.getfield 10, 3) := by decide +kernel
theorem dX7_belongs_9 : decode cX7_belongs 9 = .ok (.lload_n 1, 1) := by decide +kernel
theorem dX7_belongs_10 : decode cX7_belongs 10 = .ok (.invokevirtual 132, 3) := by decide +kernel
theorem dX7_belongs_13 : decode cX7_belongs 13 = .ok (.ifCond .ne 5, 3) := by decide +kernel
theorem dX7_belongs_16 : decode cX7_belongs 16 = .ok (.iconst 0, 1) := by decide +kernel
theorem dX7_belongs_17 : decode cX7_belongs 17 = .ok (.ireturn, 1) := by decide +kernel
theorem dX7_belongs_18 : decode cX7_belongs 18 = .ok (.aload_n 0, 1) := by decide +kernel
theorem dX7_belongs_19 : decode cX7_belongs 19 = .ok (.getfield 40, 3) := by decide +kernel
theorem dX7_belongs_22 : decode cX7_belongs 22 = .ok (.aload_n 0, 1) := by decide +kernel
theorem dX7_belongs_23 : decode cX7_belongs 23 = .ok (.getfield 10, 3) := by decide +kernel
theorem dX7_belongs_26 : decode cX7_belongs 26 = .ok (.aload_n 0, 1) := by decide +kernel
theorem dX7_belongs_27 : decode cX7_belongs 27 = .ok (.getfield 33, 3) := by decide +kernel
theorem dX7_belongs_30 : decode cX7_belongs 30 = .ok (.invokevirtual 163, 3) := by decide +kernel
theorem dX7_belongs_33 : decode cX7_belongs 33 = .ok (.aload_n 0, 1) := by decide +kernel
theorem dX7_belongs_34 : decode cX7_belongs 34 = .ok (.getfield 40, 3) := by decide +kernel
theorem dX7_belongs_37 : decode cX7_belongs 37 = .ok (.lload_n 1, 1) := by decide +kernel
theorem dX7_belongs_38 : decode cX7_belongs 38 = .ok (.aload_n 0, 1) := by decide +kernel
theorem dX7_belongs_39 : decode cX7_belongs 39 = .ok (.getfield 10, 3) := by decide +kernel
theorem dX7_belongs_42 : decode cX7_belongs 42 = .ok (.lload_n 1, 1) := by decide +kernel
theorem dX7_belongs_43 : decode cX7_belongs 43 = .ok (.invokevirtual 124, 3) := by decide +kernel
theorem dX7_belongs_46 : decode cX7_belongs 46 = .ok (.invokevirtual 169, 3) := by decide +kernel
theorem dX7_belongs_49 : decode cX7_belongs 49 = .ok (.ifCond .ne 7, 3) := by decide +kernel
theorem dX7_belongs_52 : decode cX7_belongs 52 = .ok (.iconst 1, 1) := by decide +kernel
theorem dX7_belongs_53 : decode cX7_belongs 53 = .ok (.goto 4, 3) := by decide +kernel
theorem dX7_belongs_56 : decode cX7_belongs 56 = .ok (.iconst 0, 1) := by decide +kernel
theorem dX7_belongs_57 : decode cX7_belongs 57 = .ok (.ireturn, 1) := by decide +kernel
set_option maxRecDepth 20000 in
theorem ggX7_cycles_X0_count : GoodIn wsX7_cycles wsX0_count := goodIn_r _ [7, 8, 9, 10, 11, 12, 13, 14, 6, 15, 24, 25, 26, 27, 28, 29] (by decide +kernel) (by decide +kernel)
set_option maxRecDepth 20000 in
theorem gX7_cycles_X0_count : GoodIn wsX7_cycles (wsV RX7 173 RX0 yX0_count wsX0_count) := goodIn_app (goodIn_of _ (by decide +kernel)) ggX7_cycles_X0_count
theorem dX7_cycles_0 : decode cX7_cycles 0 = .ok (.aload_n 0, 1) := by decide +kernel
theorem dX7_cycles_1 : decode cX7_cycles 1 = .ok (.getfield 54, 3) := by decide +kernel
theorem dX7_cycles_4 : decode cX7_cycles 4 = .ok (.aload_n 0, 1) := by decide +kernel
theorem dX7_cycles_5 : decode cX7_cycles 5 = .ok (.getfield 10, 3) := by decide +kernel
theorem dX7_cycles_8 : decode cX7_cycles 8 = .ok (.invokevirtual 173, 3) := by decide +kernel
theorem dX7_cycles_11 : decode cX7_cycles 11 = .ok (.ireturn, 1) := by decide +kernel
set_option maxRecDepth 20000 in
theorem ggX7_light_X7_fillRings : GoodIn wsX7_light wsX7_fillRings := goodIn_r _ [7, 8, 2, 1, 9, 10, 11, 12, 13, 14, 15, 16, 17, 18, 19, 20, 21, 22, 23, 24, 25, 26, 27, 28, 29, 54, 55, 56, 57, 58, 59, 60, 61, 62, 63, 64, 65, 66, 67, 68, 69, 70] (by decide +kernel) (by decide +kernel)
set_option maxRecDepth 20000 in
theorem gX7_light_X7_fillRings : GoodIn wsX7_light (wsV RX7 176 RX7 yX7_fillRings wsX7_fillRings) := goodIn_app (goodIn_of _ (by decide +kernel)) ggX7_light_X7_fillRings
set_option maxRecDepth 20000 in
theorem ggX7_light_J6_numberOfTrailingZeros_0f7a4 : GoodIn wsX7_light wsJ6_numberOfTrailingZeros_0f7a4 := goodIn_r _ [33, 34] (by decide +kernel) (by decide +kernel)
set_option maxRecDepth 20000 in
theorem gX7_light_J6_numberOfTrailingZeros_0f7a4 : GoodIn wsX7_light (va_wsS RX7 179 yJ6_numberOfTrailingZeros_0f7a4 wsJ6_numberOfTrailingZeros_0f7a4) := goodIn_app (goodIn_of _ (by decide +kernel)) ggX7_light_J6_numberOfTrailingZeros_0f7a4
set_option maxRecDepth 20000 in
theorem ggX7_light_X2_gain : GoodIn wsX7_light wsX2_gain := goodIn_r _ [39, 40, 41, 42, 43, 44, 45, 46, 47, 48, 49, 50, 51, 31, 32, 33, 34, 52, 6, 53, 62, 63, 64, 65, 66] (by decide +kernel) (by decide +kernel)
set_option maxRecDepth 20000 in
theorem gX7_light_X2_gain : GoodIn wsX7_light (wsV RX7 185 RX2 yX2_gain wsX2_gain) := goodIn_app (goodIn_of _ (by decide +kernel)) ggX7_light_X2_gain
theorem dX7_light_0 : decode cX7_light 0 = .ok (.iconst 1, 1) := by decide +kernel
theorem dX7_light_1 : decode cX7_light 1 = .ok (.aload_n 0, 1) := by decide +kernel
theorem dX7_light_2 : decode cX7_light 2 = .ok (.invokevirtual 176, 3) := by decide +kernel
theorem dX7_light_5 : decode cX7_light 5 = .ok (.ishl, 1) := by decide +kernel
theorem dX7_light_6 : decode cX7_light 6 = .ok (.istore_n 3, 1) := by decide +kernel
theorem dX7_light_7 : decode cX7_light 7 = .ok (.lconst 0, 1) := by decide +kernel
theorem dX7_light_8 : decode cX7_light 8 = .ok (.lstore 4, 2) := by decide +kernel
theorem dX7_light_10 : decode cX7_light 10 = .ok (.lconst 0, 1) := by decide +kernel
theorem dX7_light_11 : decode cX7_light 11 = .ok (.lstore 6, 2) := by decide +kernel
theorem dX7_light_13 : decode cX7_light 13 = .ok (.lload 6, 2) := by decide +kernel
theorem dX7_light_15 : decode cX7_light 15 = .ok (.lload_n 1, 1) := by decide +kernel
theorem dX7_light_16 : decode cX7_light 16 = .ok (.lcmp, 1) := by decide +kernel
theorem dX7_light_17 : decode cX7_light 17 = .ok (.ifCond .gt 7, 3) := by decide +kernel
theorem dX7_light_20 : decode cX7_light 20 = .ok (.iconst 1, 1) := by decide +kernel
theorem dX7_light_21 : decode cX7_light 21 = .ok (.goto 4, 3) := by decide +kernel
theorem dX7_light_24 : decode cX7_light 24 = .ok (.iconst 0, 1) := by decide +kernel
theorem dX7_light_25 : decode cX7_light 25 = .ok (.istore 8, 2) := by decide +kernel
theorem dX7_light_27 : decode cX7_light 27 = .ok (.iconst 1, 1) := by decide +kernel
theorem dX7_light_28 : decode cX7_light 28 = .ok (.istore 9, 2) := by decide +kernel
theorem dX7_light_30 : decode cX7_light 30 = .ok (.iload 9, 2) := by decide +kernel
theorem dX7_light_32 : decode cX7_light 32 = .ok (.iload_n 3, 1) := by decide +kernel
theorem dX7_light_33 : decode cX7_light 33 = .ok (.if_icmp .ge 54, 3) := by decide +kernel
theorem dX7_light_36 : decode cX7_light 36 = .ok (.aload_n 0, 1) := by decide +kernel
theorem dX7_light_37 : decode cX7_light 37 = .ok (.getfield 58, 3) := by decide +kernel
theorem dX7_light_40 : decode cX7_light 40 = .ok (.iload 9, 2) := by decide +kernel
theorem dX7_light_42 : decode cX7_light 42 = .ok (.invokestatic 179, 3) := by decide +kernel
theorem dX7_light_45 : decode cX7_light 45 = .ok (.laload, 1) := by decide +kernel
theorem dX7_light_46 : decode cX7_light 46 = .ok (.lstore 10, 2) := by decide +kernel
theorem dX7_light_48 : decode cX7_light 48 = .ok (.lload 4, 2) := by decide +kernel
theorem dX7_light_50 : decode cX7_light 50 = .ok (.lload 10, 2) := by decide +kernel
theorem dX7_light_52 : decode cX7_light 52 = .ok (.lxor, 1) := by decide +kernel
theorem dX7_light_53 : decode cX7_light 53 = .ok (.lstore 4, 2) := by decide +kernel
theorem dX7_light_55 : decode cX7_light 55 = .ok (.lload 6, 2) := by decide +kernel
theorem dX7_light_57 : decode cX7_light 57 = .ok (.aload_n 0, 1) := by decide +kernel
theorem dX7_light_58 : decode cX7_light 58 = .ok (.getfield 10, 3) := by decide +kernel
theorem dX7_light_61 : decode cX7_light 61 = .ok (.lload 10, 2) := by decide +kernel
theorem dX7_light_63 : decode cX7_light 63 = .ok (.lload 4, 2) := by decide +kernel
theorem dX7_light_65 : decode cX7_light 65 = .ok (.invokevirtual 185, 3) := by decide +kernel
theorem dX7_light_68 : decode cX7_light 68 = .ok (.ladd, 1) := by decide +kernel
theorem dX7_light_69 : decode cX7_light 69 = .ok (.lstore 6, 2) := by decide +kernel
theorem dX7_light_71 : decode cX7_light 71 = .ok (.lload 6, 2) := by decide +kernel
theorem dX7_light_73 : decode cX7_light 73 = .ok (.lload_n 1, 1) := by decide +kernel
theorem dX7_light_74 : decode cX7_light 74 = .ok (.lcmp, 1) := by decide +kernel
theorem dX7_light_75 : decode cX7_light 75 = .ok (.ifCond .gt 6, 3) := by decide +kernel
theorem dX7_light_78 : decode cX7_light 78 = .ok (.iinc 8 1, 3) := by decide +kernel
theorem dX7_light_81 : decode cX7_light 81 = .ok (.iinc 9 1, 3) := by decide +kernel
theorem dX7_light_84 : decode cX7_light 84 = .ok (.goto (-54), 3) := by decide +kernel
theorem dX7_light_87 : decode cX7_light 87 = .ok (.iload 8, 2) := by decide +kernel
theorem dX7_light_89 : decode cX7_light 89 = .ok (.ireturn, 1) := by decide +kernel
set_option maxRecDepth 20000 in
theorem ggX7_add_X7_checkListed : GoodIn wsX7_add wsX7_checkListed := goodIn_ca (goodIn_r _ [8, 9, 10] (by decide +kernel) (by decide +kernel)) (goodIn_sub (fun _ h => List.mem_cons_of_mem _ (List.mem_append_right _ h)) (by decide +kernel))
set_option maxRecDepth 20000 in
theorem gX7_add_X7_checkListed : GoodIn wsX7_add (wsV RX7 189 RX7 yX7_checkListed wsX7_checkListed) := goodIn_app (goodIn_of _ (by decide +kernel)) ggX7_add_X7_checkListed
set_option maxRecDepth 20000 in
theorem ggX7_add_X5_append : GoodIn wsX7_add wsX5_append := goodIn_r _ [15, 16, 17, 18, 19, 20, 21, 14, 22, 23, 7, 24, 25, 26, 27, 28, 29, 30, 31, 32, 33, 42, 43, 44] (by decide +kernel) (by decide +kernel)
set_option maxRecDepth 20000 in
theorem gX7_add_X5_append : GoodIn wsX7_add (wsV RX7 197 RX5 yX5_append wsX5_append) := goodIn_app (goodIn_of _ (by decide +kernel)) ggX7_add_X5_append
theorem dX7_add_0 : decode cX7_add 0 = .ok (.aload_n 0, 1) := by decide +kernel
theorem dX7_add_1 : decode cX7_add 1 = .ok (.lload_n 1, 1) := by decide +kernel
theorem dX7_add_2 : decode cX7_add 2 = .ok (.invokevirtual 189, 3) := by decide +kernel
theorem dX7_add_5 : decode cX7_add 5 = .ok (.aload_n 0, 1) := by decide +kernel
theorem dX7_add_6 : decode cX7_add 6 = .ok (.getfield 19, 3) := by decide +kernel
theorem dX7_add_9 : decode cX7_add 9 = .ok (.getfield 192, 3) := by decide +kernel
theorem dX7_add_12 : decode cX7_add 12 = .ok (.bipush 64, 2) := by decide +kernel
theorem dX7_add_14 : decode cX7_add 14 = .ok (.if_icmp .lt 13, 3) := by decide +kernel
theorem dX7_add_17 : decode cX7_add 17 = .ok (.new 86, 3) := by decide +kernel
theorem dX7_add_20 : decode cX7_add 20 = .ok (.dup, 1) := by decide +kernel
theorem dX7_add_21 : decode cX7_add 21 = .ok (.ldc 195, 2) := by decide +kernel
theorem dX7_add_23 : decode cX7_add 23 = .ok (.invokespecial 90, 3) := by decide +kernel
theorem dX7_add_26 : decode cX7_add 26 = .ok (.athrow, 1) := by decide +kernel
theorem dX7_add_27 : decode cX7_add 27 = .ok (.aload_n 0, 1) := by decide +kernel
theorem dX7_add_28 : decode cX7_add 28 = .ok (.getfield 19, 3) := by decide +kernel
theorem dX7_add_31 : decode cX7_add 31 = .ok (.lload_n 1, 1) := by decide +kernel
theorem dX7_add_32 : decode cX7_add 32 = .ok (.invokevirtual 197, 3) := by decide +kernel
theorem dX7_add_35 : decode cX7_add 35 = .ok (.ireturn, 1) := by decide +kernel
set_option maxRecDepth 20000 in
theorem ggX7_clear_X5_empty : GoodIn wsX7_clear wsX5_empty := goodIn_r _ [6, 7, 8, 9, 10, 11, 12, 13, 22, 23, 24] (by decide +kernel) (by decide +kernel)
set_option maxRecDepth 20000 in
theorem gX7_clear_X5_empty : GoodIn wsX7_clear (wsV RX7 199 RX5 yX5_empty wsX5_empty) := goodIn_app (goodIn_of _ (by decide +kernel)) ggX7_clear_X5_empty
theorem dX7_clear_0 : decode cX7_clear 0 = .ok (.aload_n 0, 1) := by decide +kernel
theorem dX7_clear_1 : decode cX7_clear 1 = .ok (.getfield 19, 3) := by decide +kernel
theorem dX7_clear_4 : decode cX7_clear 4 = .ok (.getfield 192, 3) := by decide +kernel
theorem dX7_clear_7 : decode cX7_clear 7 = .ok (.istore_n 1, 1) := by decide +kernel
theorem dX7_clear_8 : decode cX7_clear 8 = .ok (.aload_n 0, 1) := by decide +kernel
theorem dX7_clear_9 : decode cX7_clear 9 = .ok (.getfield 19, 3) := by decide +kernel
theorem dX7_clear_12 : decode cX7_clear 12 = .ok (.invokevirtual 199, 3) := by decide +kernel
theorem dX7_clear_15 : decode cX7_clear 15 = .ok (.iload_n 1, 1) := by decide +kernel
theorem dX7_clear_16 : decode cX7_clear 16 = .ok (.ireturn, 1) := by decide +kernel
set_option maxRecDepth 20000 in
theorem ggX7_spans_X7_checkListed : GoodIn wsX7_spans wsX7_checkListed := goodIn_ca (goodIn_r _ [6, 7, 8] (by decide +kernel) (by decide +kernel)) (goodIn_sub (fun _ h => List.mem_cons_of_mem _ (List.mem_append_right _ h)) (by decide +kernel))
set_option maxRecDepth 20000 in
theorem gX7_spans_X7_checkListed : GoodIn wsX7_spans (wsV RX7 189 RX7 yX7_checkListed wsX7_checkListed) := goodIn_app (goodIn_of _ (by decide +kernel)) ggX7_spans_X7_checkListed
set_option maxRecDepth 20000 in
theorem ggX7_spans_X5_rest : GoodIn wsX7_spans wsX5_rest := goodIn_r _ [13, 14, 15, 5, 16, 25, 26, 27] (by decide +kernel) (by decide +kernel)
set_option maxRecDepth 20000 in
theorem gX7_spans_X5_rest : GoodIn wsX7_spans (wsV RX7 202 RX5 yX5_rest wsX5_rest) := goodIn_app (goodIn_of _ (by decide +kernel)) ggX7_spans_X5_rest
theorem dX7_spans_0 : decode cX7_spans 0 = .ok (.aload_n 0, 1) := by decide +kernel
theorem dX7_spans_1 : decode cX7_spans 1 = .ok (.lload_n 1, 1) := by decide +kernel
theorem dX7_spans_2 : decode cX7_spans 2 = .ok (.invokevirtual 189, 3) := by decide +kernel
theorem dX7_spans_5 : decode cX7_spans 5 = .ok (.aload_n 0, 1) := by decide +kernel
theorem dX7_spans_6 : decode cX7_spans 6 = .ok (.getfield 19, 3) := by decide +kernel
theorem dX7_spans_9 : decode cX7_spans 9 = .ok (.lload_n 1, 1) := by decide +kernel
theorem dX7_spans_10 : decode cX7_spans 10 = .ok (.invokevirtual 202, 3) := by decide +kernel
theorem dX7_spans_13 : decode cX7_spans 13 = .ok (.lconst 0, 1) := by decide +kernel
theorem dX7_spans_14 : decode cX7_spans 14 = .ok (.lcmp, 1) := by decide +kernel
theorem dX7_spans_15 : decode cX7_spans 15 = .ok (.ifCond .ne 7, 3) := by decide +kernel
theorem dX7_spans_18 : decode cX7_spans 18 = .ok (.iconst 1, 1) := by decide +kernel
theorem dX7_spans_19 : decode cX7_spans 19 = .ok (.goto 4, 3) := by decide +kernel
theorem dX7_spans_22 : decode cX7_spans 22 = .ok (.iconst 0, 1) := by decide +kernel
theorem dX7_spans_23 : decode cX7_spans 23 = .ok (.ireturn, 1) := by decide +kernel
set_option maxRecDepth 20000 in
theorem ggX7_look_X7_countGroups : GoodIn wsX7_look wsX7_countGroups := goodIn_r _ [9, 10, 11, 12, 13, 8, 14, 3, 15, 16, 17, 18, 19, 20, 21, 22, 23, 24, 25, 26, 27, 28, 29, 30, 31, 32, 33, 34, 35, 36, 37, 38, 39, 40, 41, 42, 75, 76, 77, 78, 79, 80, 81, 82, 91, 92, 93, 94, 83, 84, 85, 86, 87] (by decide +kernel) (by decide +kernel)
set_option maxRecDepth 20000 in
theorem gX7_look_X7_countGroups : GoodIn wsX7_look (wsV RX7 208 RX7 yX7_countGroups wsX7_countGroups) := goodIn_app (goodIn_of _ (by decide +kernel)) ggX7_look_X7_countGroups
set_option maxRecDepth 20000 in
theorem ggX7_look_X7_joinWhole : GoodIn wsX7_look wsX7_joinWhole := goodIn_r _ [14, 3, 15, 16, 17, 8, 18, 10, 19, 20, 21, 22, 23, 24, 25, 26, 27, 28, 29, 30, 31, 32, 33, 34, 35, 36, 37, 38, 39, 40, 41, 42, 75, 76, 77, 78, 79, 80, 81, 82, 83, 84, 85, 86, 87, 91, 92, 93, 94] (by decide +kernel) (by decide +kernel)
set_option maxRecDepth 20000 in
theorem gX7_look_X7_joinWhole : GoodIn wsX7_look (wsV RX7 91 RX7 yX7_joinWhole wsX7_joinWhole) := goodIn_app (goodIn_of _ (by decide +kernel)) ggX7_look_X7_joinWhole
set_option maxRecDepth 20000 in
theorem ggX7_look_X7_countEdgesInNoCycle : GoodIn wsX7_look wsX7_countEdgesInNoCycle := goodIn_r _ [46, 47, 3, 48, 49, 50, 8, 51, 10, 19, 20, 21, 22, 23, 24, 25, 26, 27, 31, 32, 33, 34, 35, 36, 37, 38, 39, 40, 41, 42, 52, 53, 54, 55, 56, 57, 58, 75, 76, 77, 78, 79, 80, 81, 82, 83, 84, 85, 86, 87, 91, 92, 93, 94] (by decide +kernel) (by decide +kernel)
set_option maxRecDepth 20000 in
theorem gX7_look_X7_countEdgesInNoCycle : GoodIn wsX7_look (wsV RX7 211 RX7 yX7_countEdgesInNoCycle wsX7_countEdgesInNoCycle) := goodIn_app (goodIn_of _ (by decide +kernel)) ggX7_look_X7_countEdgesInNoCycle
set_option maxRecDepth 20000 in
theorem ggX7_look_X7_hasOddCycle : GoodIn wsX7_look wsX7_hasOddCycle := goodIn_r _ [62, 47, 48, 49, 50, 8, 51, 10, 3, 19, 20, 21, 22, 23, 24, 25, 26, 27, 31, 32, 33, 34, 35, 36, 37, 38, 39, 40, 41, 42, 52, 53, 54, 55, 56, 57, 58, 75, 76, 77, 78, 79, 80, 81, 82, 83, 84, 85, 86, 87, 91, 92, 93, 94] (by decide +kernel) (by decide +kernel)
set_option maxRecDepth 20000 in
theorem gX7_look_X7_hasOddCycle : GoodIn wsX7_look (wsV RX7 214 RX7 yX7_hasOddCycle wsX7_hasOddCycle) := goodIn_app (goodIn_of _ (by decide +kernel)) ggX7_look_X7_hasOddCycle
set_option maxRecDepth 20000 in
theorem ggX7_look_X7_countCuttingVertices : GoodIn wsX7_look wsX7_countCuttingVertices := goodIn_r _ [66, 3, 10, 5, 6, 7, 8, 9, 11, 12, 13, 14, 15, 16, 17, 18, 19, 20, 21, 22, 23, 24, 25, 26, 27, 28, 29, 30, 31, 32, 33, 34, 35, 36, 37, 38, 39, 40, 41, 42, 67, 68, 69, 70, 71, 72, 73, 74, 75, 76, 77, 78, 79, 80, 81, 82, 83, 84, 85, 86, 87, 91, 92, 93, 94] (by decide +kernel) (by decide +kernel)
set_option maxRecDepth 20000 in
theorem gX7_look_X7_countCuttingVertices : GoodIn wsX7_look (wsV RX7 221 RX7 yX7_countCuttingVertices wsX7_countCuttingVertices) := goodIn_app (goodIn_of _ (by decide +kernel)) ggX7_look_X7_countCuttingVertices
theorem dX7_look_0 : decode cX7_look 0 = .ok (.iload_n 1, 1) := by decide +kernel
theorem dX7_look_1 : decode cX7_look 1 = .ok (.tableswitch 116 0 8 #[51, 59, 67, 72, 77, 82, 95, 103, 111], 51) := by decide +kernel
theorem dX7_look_52 : decode cX7_look 52 = .ok (.aload_n 0, 1) := by decide +kernel
theorem dX7_look_53 : decode cX7_look 53 = .ok (.getfield 10, 3) := by decide +kernel
theorem dX7_look_56 : decode cX7_look 56 = .ok (.getfield 205, 3) := by decide +kernel
theorem dX7_look_59 : decode cX7_look 59 = .ok (.ireturn, 1) := by decide +kernel
theorem dX7_look_60 : decode cX7_look 60 = .ok (.aload_n 0, 1) := by decide +kernel
theorem dX7_look_61 : decode cX7_look 61 = .ok (.getfield 10, 3) := by decide +kernel
theorem dX7_look_64 : decode cX7_look 64 = .ok (.getfield 69, 3) := by decide +kernel
theorem dX7_look_67 : decode cX7_look 67 = .ok (.ireturn, 1) := by decide +kernel
theorem dX7_look_68 : decode cX7_look 68 = .ok (.aload_n 0, 1) := by decide +kernel
theorem dX7_look_69 : decode cX7_look 69 = .ok (.invokevirtual 208, 3) := by decide +kernel
theorem dX7_look_72 : decode cX7_look 72 = .ok (.ireturn, 1) := by decide +kernel
theorem dX7_look_73 : decode cX7_look 73 = .ok (.aload_n 0, 1) := by decide +kernel
theorem dX7_look_74 : decode cX7_look 74 = .ok (.invokevirtual 91, 3) := by decide +kernel
theorem dX7_look_77 : decode cX7_look 77 = .ok (.ireturn, 1) := by decide +kernel
theorem dX7_look_78 : decode cX7_look 78 = .ok (.aload_n 0, 1) := by decide +kernel
theorem dX7_look_79 : decode cX7_look 79 = .ok (.invokevirtual 211, 3) := by decide +kernel
theorem dX7_look_82 : decode cX7_look 82 = .ok (.ireturn, 1) := by decide +kernel
theorem dX7_look_83 : decode cX7_look 83 = .ok (.aload_n 0, 1) := by decide +kernel
theorem dX7_look_84 : decode cX7_look 84 = .ok (.invokevirtual 214, 3) := by decide +kernel
theorem dX7_look_87 : decode cX7_look 87 = .ok (.ifCond .eq 7, 3) := by decide +kernel
theorem dX7_look_90 : decode cX7_look 90 = .ok (.iconst 0, 1) := by decide +kernel
theorem dX7_look_91 : decode cX7_look 91 = .ok (.goto 4, 3) := by decide +kernel
theorem dX7_look_94 : decode cX7_look 94 = .ok (.iconst 1, 1) := by decide +kernel
theorem dX7_look_95 : decode cX7_look 95 = .ok (.ireturn, 1) := by decide +kernel
theorem dX7_look_96 : decode cX7_look 96 = .ok (.aload_n 0, 1) := by decide +kernel
theorem dX7_look_97 : decode cX7_look 97 = .ok (.getfield 19, 3) := by decide +kernel
theorem dX7_look_100 : decode cX7_look 100 = .ok (.getfield 192, 3) := by decide +kernel
theorem dX7_look_103 : decode cX7_look 103 = .ok (.ireturn, 1) := by decide +kernel
theorem dX7_look_104 : decode cX7_look 104 = .ok (.aload_n 0, 1) := by decide +kernel
theorem dX7_look_105 : decode cX7_look 105 = .ok (.getfield 19, 3) := by decide +kernel
theorem dX7_look_108 : decode cX7_look 108 = .ok (.getfield 218, 3) := by decide +kernel
theorem dX7_look_111 : decode cX7_look 111 = .ok (.ireturn, 1) := by decide +kernel
theorem dX7_look_112 : decode cX7_look 112 = .ok (.aload_n 0, 1) := by decide +kernel
theorem dX7_look_113 : decode cX7_look 113 = .ok (.invokevirtual 221, 3) := by decide +kernel
theorem dX7_look_116 : decode cX7_look 116 = .ok (.ireturn, 1) := by decide +kernel
theorem dX7_look_117 : decode cX7_look 117 = .ok (.new 62, 3) := by decide +kernel
theorem dX7_look_120 : decode cX7_look 120 = .ok (.dup, 1) := by decide +kernel
theorem dX7_look_121 : decode cX7_look 121 = .ok (.ldc 224, 2) := by decide +kernel
theorem dX7_look_123 : decode cX7_look 123 = .ok (.invokespecial 66, 3) := by decide +kernel
theorem dX7_look_126 : decode cX7_look 126 = .ok (.athrow, 1) := by decide +kernel
theorem dX7_checkEdges_0 : decode cX7_checkEdges 0 = .ok (.lload_n 1, 1) := by decide +kernel
theorem dX7_checkEdges_1 : decode cX7_checkEdges 1 = .ok (.aload_n 0, 1) := by decide +kernel
theorem dX7_checkEdges_2 : decode cX7_checkEdges 2 = .ok (.getfield 10, 3) := by decide +kernel
theorem dX7_checkEdges_5 : decode cX7_checkEdges 5 = .ok (.getfield 69, 3) := by decide +kernel
theorem dX7_checkEdges_8 : decode cX7_checkEdges 8 = .ok (.lushr, 1) := by decide +kernel
theorem dX7_checkEdges_9 : decode cX7_checkEdges 9 = .ok (.lconst 0, 1) := by decide +kernel
theorem dX7_checkEdges_10 : decode cX7_checkEdges 10 = .ok (.lcmp, 1) := by decide +kernel
theorem dX7_checkEdges_11 : decode cX7_checkEdges 11 = .ok (.ifCond .eq 13, 3) := by decide +kernel
theorem dX7_checkEdges_14 : decode cX7_checkEdges 14 = .ok (.new 62, 3) := by decide +kernel
theorem dX7_checkEdges_17 : decode cX7_checkEdges 17 = .ok (.dup, 1) := by decide +kernel
theorem dX7_checkEdges_18 : decode cX7_checkEdges 18 = .ok (.ldc 226, 2) := by decide +kernel
theorem dX7_checkEdges_20 : decode cX7_checkEdges 20 = .ok (.invokespecial 66, 3) := by decide +kernel
theorem dX7_checkEdges_23 : decode cX7_checkEdges 23 = .ok (.athrow, 1) := by decide +kernel
theorem dX7_checkEdges_24 : decode cX7_checkEdges 24 = .ok (.return_, 1) := by decide +kernel
theorem dX7_checkListed_0 : decode cX7_checkListed 0 = .ok (.lload_n 1, 1) := by decide +kernel
theorem dX7_checkListed_1 : decode cX7_checkListed 1 = .ok (.bipush 40, 2) := by decide +kernel
theorem dX7_checkListed_3 : decode cX7_checkListed 3 = .ok (.lushr, 1) := by decide +kernel
theorem dX7_checkListed_4 : decode cX7_checkListed 4 = .ok (.lconst 0, 1) := by decide +kernel
theorem dX7_checkListed_5 : decode cX7_checkListed 5 = .ok (.lcmp, 1) := by decide +kernel
theorem dX7_checkListed_6 : decode cX7_checkListed 6 = .ok (.ifCond .eq 13, 3) := by decide +kernel
theorem dX7_checkListed_9 : decode cX7_checkListed 9 = .ok (.new 62, 3) := by decide +kernel
theorem dX7_checkListed_12 : decode cX7_checkListed 12 = .ok (.dup, 1) := by decide +kernel
theorem dX7_checkListed_13 : decode cX7_checkListed 13 = .ok (.ldc 228, 2) := by decide +kernel
theorem dX7_checkListed_15 : decode cX7_checkListed 15 = .ok (.invokespecial 66, 3) := by decide +kernel
theorem dX7_checkListed_18 : decode cX7_checkListed 18 = .ok (.athrow, 1) := by decide +kernel
theorem dX7_checkListed_19 : decode cX7_checkListed 19 = .ok (.return_, 1) := by decide +kernel
theorem dX7_has_0 : decode cX7_has 0 = .ok (.lload_n 0, 1) := by decide +kernel
theorem dX7_has_1 : decode cX7_has 1 = .ok (.iload_n 2, 1) := by decide +kernel
theorem dX7_has_2 : decode cX7_has 2 = .ok (.lushr, 1) := by decide +kernel
theorem dX7_has_3 : decode cX7_has 3 = .ok (.lconst 1, 1) := by decide +kernel
theorem dX7_has_4 : decode cX7_has 4 = .ok (.land, 1) := by decide +kernel
theorem dX7_has_5 : decode cX7_has 5 = .ok (.lconst 0, 1) := by decide +kernel
theorem dX7_has_6 : decode cX7_has 6 = .ok (.lcmp, 1) := by decide +kernel
theorem dX7_has_7 : decode cX7_has 7 = .ok (.ifCond .eq 7, 3) := by decide +kernel
theorem dX7_has_10 : decode cX7_has 10 = .ok (.iconst 1, 1) := by decide +kernel
theorem dX7_has_11 : decode cX7_has 11 = .ok (.goto 4, 3) := by decide +kernel
theorem dX7_has_14 : decode cX7_has 14 = .ok (.iconst 0, 1) := by decide +kernel
theorem dX7_has_15 : decode cX7_has 15 = .ok (.ireturn, 1) := by decide +kernel
set_option maxRecDepth 20000 in
theorem ggX7_joinSet_X3_part : GoodIn wsX7_joinSet wsX3_part := goodIn_r _ [7, 8, 9, 10, 11, 41, 42, 43, 44] (by decide +kernel) (by decide +kernel)
set_option maxRecDepth 20000 in
theorem gX7_joinSet_X3_part : GoodIn wsX7_joinSet (wsV RX7 230 RX3 yX3_part wsX3_part) := goodIn_app (goodIn_of _ (by decide +kernel)) ggX7_joinSet_X3_part
set_option maxRecDepth 20000 in
theorem ggX7_joinSet_X7_has : GoodIn wsX7_joinSet wsX7_has := goodIn_r _ [15] (by decide +kernel) (by decide +kernel)
set_option maxRecDepth 20000 in
theorem gX7_joinSet_X7_has : GoodIn wsX7_joinSet (va_wsS RX7 233 yX7_has wsX7_has) := goodIn_app (goodIn_of _ (by decide +kernel)) ggX7_joinSet_X7_has
set_option maxRecDepth 20000 in
theorem ggX7_joinSet_X3_join : GoodIn wsX7_joinSet wsX3_join := goodIn_r _ [19, 11, 10, 20, 21, 22, 6, 23, 24, 25, 26, 27, 8, 9, 36, 37, 38, 39, 40, 41, 42, 43, 44] (by decide +kernel) (by decide +kernel)
set_option maxRecDepth 20000 in
theorem gX7_joinSet_X3_join : GoodIn wsX7_joinSet (wsV RX7 237 RX3 yX3_join wsX3_join) := goodIn_app (goodIn_of _ (by decide +kernel)) ggX7_joinSet_X3_join
theorem dX7_joinSet_0 : decode cX7_joinSet 0 = .ok (.aload_n 0, 1) := by decide +kernel
theorem dX7_joinSet_1 : decode cX7_joinSet 1 = .ok (.getfield 26, 3) := by decide +kernel
theorem dX7_joinSet_4 : decode cX7_joinSet 4 = .ok (.aload_n 0, 1) := by decide +kernel
theorem dX7_joinSet_5 : decode cX7_joinSet 5 = .ok (.getfield 10, 3) := by decide +kernel
theorem dX7_joinSet_8 : decode cX7_joinSet 8 = .ok (.getfield 205, 3) := by decide +kernel
theorem dX7_joinSet_11 : decode cX7_joinSet 11 = .ok (.invokevirtual 230, 3) := by decide +kernel
theorem dX7_joinSet_14 : decode cX7_joinSet 14 = .ok (.iconst 0, 1) := by decide +kernel
theorem dX7_joinSet_15 : decode cX7_joinSet 15 = .ok (.istore_n 3, 1) := by decide +kernel
theorem dX7_joinSet_16 : decode cX7_joinSet 16 = .ok (.iconst 0, 1) := by decide +kernel
theorem dX7_joinSet_17 : decode cX7_joinSet 17 = .ok (.istore 4, 2) := by decide +kernel
theorem dX7_joinSet_19 : decode cX7_joinSet 19 = .ok (.iload 4, 2) := by decide +kernel
theorem dX7_joinSet_21 : decode cX7_joinSet 21 = .ok (.aload_n 0, 1) := by decide +kernel
theorem dX7_joinSet_22 : decode cX7_joinSet 22 = .ok (.getfield 10, 3) := by decide +kernel
theorem dX7_joinSet_25 : decode cX7_joinSet 25 = .ok (.getfield 69, 3) := by decide +kernel
theorem dX7_joinSet_28 : decode cX7_joinSet 28 = .ok (.if_icmp .ge 39, 3) := by decide +kernel
theorem dX7_joinSet_31 : decode cX7_joinSet 31 = .ok (.lload_n 1, 1) := by decide +kernel
theorem dX7_joinSet_32 : decode cX7_joinSet 32 = .ok (.iload 4, 2) := by decide +kernel
theorem dX7_joinSet_34 : decode cX7_joinSet 34 = .ok (.invokestatic 233, 3) := by decide +kernel
theorem dX7_joinSet_37 : decode cX7_joinSet 37 = .ok (.ifCond .eq 24, 3) := by decide +kernel
theorem dX7_joinSet_40 : decode cX7_joinSet 40 = .ok (.aload_n 0, 1) := by decide +kernel
theorem dX7_joinSet_41 : decode cX7_joinSet 41 = .ok (.getfield 26, 3) := by decide +kernel
theorem dX7_joinSet_44 : decode cX7_joinSet 44 = .ok (.aload_n 0, 1) := by decide +kernel
theorem dX7_joinSet_45 : decode cX7_joinSet 45 = .ok (.getfield 10, 3) := by decide +kernel
theorem dX7_joinSet_48 : decode cX7_joinSet 48 = .ok (.iload 4, 2) := by decide +kernel
theorem dX7_joinSet_50 : decode cX7_joinSet 50 = .ok (.invokevirtual 237, 3) := by decide +kernel
theorem dX7_joinSet_53 : decode cX7_joinSet 53 = .ok (.lconst 0, 1) := by decide +kernel
theorem dX7_joinSet_54 : decode cX7_joinSet 54 = .ok (.lcmp, 1) := by decide +kernel
theorem dX7_joinSet_55 : decode cX7_joinSet 55 = .ok (.ifCond .eq 6, 3) := by decide +kernel
theorem dX7_joinSet_58 : decode cX7_joinSet 58 = .ok (.iinc 3 1, 3) := by decide +kernel
theorem dX7_joinSet_61 : decode cX7_joinSet 61 = .ok (.iinc 4 1, 3) := by decide +kernel
theorem dX7_joinSet_64 : decode cX7_joinSet 64 = .ok (.goto (-45), 3) := by decide +kernel
theorem dX7_joinSet_67 : decode cX7_joinSet 67 = .ok (.iload_n 3, 1) := by decide +kernel
theorem dX7_joinSet_68 : decode cX7_joinSet 68 = .ok (.ireturn, 1) := by decide +kernel
set_option maxRecDepth 20000 in
theorem ggX7_joinWhole_X7_joinSet : GoodIn wsX7_joinWhole wsX7_joinSet := goodIn_r _ [6, 7, 1, 8, 9, 10, 11, 12, 13, 14, 15, 16, 17, 18, 5, 19, 20, 21, 22, 23, 24, 25, 26, 27, 28, 29, 30, 31, 32, 33, 34, 35, 36, 37, 38, 39, 40, 41, 42, 43, 44, 45, 46, 47, 48] (by decide +kernel) (by decide +kernel)
set_option maxRecDepth 20000 in
theorem gX7_joinWhole_X7_joinSet : GoodIn wsX7_joinWhole (wsV RX7 114 RX7 yX7_joinSet wsX7_joinSet) := goodIn_app (goodIn_of _ (by decide +kernel)) ggX7_joinWhole_X7_joinSet
theorem dX7_joinWhole_0 : decode cX7_joinWhole 0 = .ok (.aload_n 0, 1) := by decide +kernel
theorem dX7_joinWhole_1 : decode cX7_joinWhole 1 = .ok (.lconst 1, 1) := by decide +kernel
theorem dX7_joinWhole_2 : decode cX7_joinWhole 2 = .ok (.aload_n 0, 1) := by decide +kernel
theorem dX7_joinWhole_3 : decode cX7_joinWhole 3 = .ok (.getfield 10, 3) := by decide +kernel
theorem dX7_joinWhole_6 : decode cX7_joinWhole 6 = .ok (.getfield 69, 3) := by decide +kernel
theorem dX7_joinWhole_9 : decode cX7_joinWhole 9 = .ok (.lshl, 1) := by decide +kernel
theorem dX7_joinWhole_10 : decode cX7_joinWhole 10 = .ok (.lconst 1, 1) := by decide +kernel
theorem dX7_joinWhole_11 : decode cX7_joinWhole 11 = .ok (.lsub, 1) := by decide +kernel
theorem dX7_joinWhole_12 : decode cX7_joinWhole 12 = .ok (.invokevirtual 114, 3) := by decide +kernel
theorem dX7_joinWhole_15 : decode cX7_joinWhole 15 = .ok (.ireturn, 1) := by decide +kernel
set_option maxRecDepth 20000 in
theorem ggX7_fillRings_X3_part : GoodIn wsX7_fillRings wsX3_part := goodIn_r _ [8, 9, 10, 11, 12, 38, 39, 40, 41] (by decide +kernel) (by decide +kernel)
set_option maxRecDepth 20000 in
theorem gX7_fillRings_X3_part : GoodIn wsX7_fillRings (wsV RX7 230 RX3 yX3_part wsX3_part) := goodIn_app (goodIn_of _ (by decide +kernel)) ggX7_fillRings_X3_part
set_option maxRecDepth 20000 in
theorem ggX7_fillRings_X3_join : GoodIn wsX7_fillRings wsX3_join := goodIn_r _ [16, 12, 11, 17, 18, 19, 7, 20, 21, 22, 23, 24, 9, 10, 33, 34, 35, 36, 37, 38, 39, 40, 41] (by decide +kernel) (by decide +kernel)
set_option maxRecDepth 20000 in
theorem gX7_fillRings_X3_join : GoodIn wsX7_fillRings (wsV RX7 237 RX3 yX3_join wsX3_join) := goodIn_app (goodIn_of _ (by decide +kernel)) ggX7_fillRings_X3_join
theorem dX7_fillRings_0 : decode cX7_fillRings 0 = .ok (.aload_n 0, 1) := by decide +kernel
theorem dX7_fillRings_1 : decode cX7_fillRings 1 = .ok (.getfield 26, 3) := by decide +kernel
theorem dX7_fillRings_4 : decode cX7_fillRings 4 = .ok (.aload_n 0, 1) := by decide +kernel
theorem dX7_fillRings_5 : decode cX7_fillRings 5 = .ok (.getfield 10, 3) := by decide +kernel
theorem dX7_fillRings_8 : decode cX7_fillRings 8 = .ok (.getfield 205, 3) := by decide +kernel
theorem dX7_fillRings_11 : decode cX7_fillRings 11 = .ok (.invokevirtual 230, 3) := by decide +kernel
theorem dX7_fillRings_14 : decode cX7_fillRings 14 = .ok (.iconst 0, 1) := by decide +kernel
theorem dX7_fillRings_15 : decode cX7_fillRings 15 = .ok (.istore_n 1, 1) := by decide +kernel
theorem dX7_fillRings_16 : decode cX7_fillRings 16 = .ok (.iconst 0, 1) := by decide +kernel
theorem dX7_fillRings_17 : decode cX7_fillRings 17 = .ok (.istore_n 2, 1) := by decide +kernel
theorem dX7_fillRings_18 : decode cX7_fillRings 18 = .ok (.iload_n 2, 1) := by decide +kernel
theorem dX7_fillRings_19 : decode cX7_fillRings 19 = .ok (.aload_n 0, 1) := by decide +kernel
theorem dX7_fillRings_20 : decode cX7_fillRings 20 = .ok (.getfield 10, 3) := by decide +kernel
theorem dX7_fillRings_23 : decode cX7_fillRings 23 = .ok (.getfield 69, 3) := by decide +kernel
theorem dX7_fillRings_26 : decode cX7_fillRings 26 = .ok (.if_icmp .ge 44, 3) := by decide +kernel
theorem dX7_fillRings_29 : decode cX7_fillRings 29 = .ok (.aload_n 0, 1) := by decide +kernel
theorem dX7_fillRings_30 : decode cX7_fillRings 30 = .ok (.getfield 26, 3) := by decide +kernel
theorem dX7_fillRings_33 : decode cX7_fillRings 33 = .ok (.aload_n 0, 1) := by decide +kernel
theorem dX7_fillRings_34 : decode cX7_fillRings 34 = .ok (.getfield 10, 3) := by decide +kernel
theorem dX7_fillRings_37 : decode cX7_fillRings 37 = .ok (.iload_n 2, 1) := by decide +kernel
theorem dX7_fillRings_38 : decode cX7_fillRings 38 = .ok (.invokevirtual 237, 3) := by decide +kernel
theorem dX7_fillRings_41 : decode cX7_fillRings 41 = .ok (.lstore_n 3, 1) := by decide +kernel
theorem dX7_fillRings_42 : decode cX7_fillRings 42 = .ok (.lload_n 3, 1) := by decide +kernel
theorem dX7_fillRings_43 : decode cX7_fillRings 43 = .ok (.lconst 0, 1) := by decide +kernel
theorem dX7_fillRings_44 : decode cX7_fillRings 44 = .ok (.lcmp, 1) := by decide +kernel
theorem dX7_fillRings_45 : decode cX7_fillRings 45 = .ok (.ifCond .eq 19, 3) := by decide +kernel
theorem dX7_fillRings_48 : decode cX7_fillRings 48 = .ok (.iload_n 1, 1) := by decide +kernel
theorem dX7_fillRings_49 : decode cX7_fillRings 49 = .ok (.bipush 14, 2) := by decide +kernel
theorem dX7_fillRings_51 : decode cX7_fillRings 51 = .ok (.if_icmp .ge 13, 3) := by decide +kernel
theorem dX7_fillRings_54 : decode cX7_fillRings 54 = .ok (.aload_n 0, 1) := by decide +kernel
theorem dX7_fillRings_55 : decode cX7_fillRings 55 = .ok (.getfield 58, 3) := by decide +kernel
theorem dX7_fillRings_58 : decode cX7_fillRings 58 = .ok (.iload_n 1, 1) := by decide +kernel
theorem dX7_fillRings_59 : decode cX7_fillRings 59 = .ok (.lload_n 3, 1) := by decide +kernel
theorem dX7_fillRings_60 : decode cX7_fillRings 60 = .ok (.lastore, 1) := by decide +kernel
theorem dX7_fillRings_61 : decode cX7_fillRings 61 = .ok (.iinc 1 1, 3) := by decide +kernel
theorem dX7_fillRings_64 : decode cX7_fillRings 64 = .ok (.iinc 2 1, 3) := by decide +kernel
theorem dX7_fillRings_67 : decode cX7_fillRings 67 = .ok (.goto (-49), 3) := by decide +kernel
theorem dX7_fillRings_70 : decode cX7_fillRings 70 = .ok (.iload_n 1, 1) := by decide +kernel
theorem dX7_fillRings_71 : decode cX7_fillRings 71 = .ok (.ireturn, 1) := by decide +kernel
set_option maxRecDepth 20000 in
theorem ggX7_weightOfLightestJoins_X7_lightestJoin : GoodIn wsX7_weightOfLightestJoins wsX7_lightestJoin := goodIn_r _ [7, 1, 2, 8, 9, 10, 11, 12, 13, 26, 27, 28, 29, 30, 31, 32, 33, 34, 35, 36, 37, 38, 39, 40, 41, 42] (by decide +kernel) (by decide +kernel)
set_option maxRecDepth 20000 in
theorem gX7_weightOfLightestJoins_X7_lightestJoin : GoodIn wsX7_weightOfLightestJoins (wsV RX7 241 RX7 yX7_lightestJoin wsX7_lightestJoin) := goodIn_app (goodIn_of _ (by decide +kernel)) ggX7_weightOfLightestJoins_X7_lightestJoin
set_option maxRecDepth 20000 in
theorem ggX7_weightOfLightestJoins_X3_join : GoodIn wsX7_weightOfLightestJoins wsX3_join := goodIn_r _ [17, 18, 13, 19, 9, 10, 11, 12, 20, 21, 22, 23, 24, 25, 34, 35, 36, 37, 38, 39, 40, 41, 42] (by decide +kernel) (by decide +kernel)
set_option maxRecDepth 20000 in
theorem gX7_weightOfLightestJoins_X3_join : GoodIn wsX7_weightOfLightestJoins (wsV RX7 237 RX3 yX3_join wsX3_join) := goodIn_app (goodIn_of _ (by decide +kernel)) ggX7_weightOfLightestJoins_X3_join
theorem dX7_weightOfLightestJoins_0 : decode cX7_weightOfLightestJoins 0 = .ok (.lconst 0, 1) := by decide +kernel
theorem dX7_weightOfLightestJoins_1 : decode cX7_weightOfLightestJoins 1 = .ok (.lstore_n 1, 1) := by decide +kernel
theorem dX7_weightOfLightestJoins_2 : decode cX7_weightOfLightestJoins 2 = .ok (.iconst 1, 1) := by decide +kernel
theorem dX7_weightOfLightestJoins_3 : decode cX7_weightOfLightestJoins 3 = .ok (.istore_n 3, 1) := by decide +kernel
theorem dX7_weightOfLightestJoins_4 : decode cX7_weightOfLightestJoins 4 = .ok (.iload_n 3, 1) := by decide +kernel
theorem dX7_weightOfLightestJoins_5 : decode cX7_weightOfLightestJoins 5 = .ok (.aload_n 0, 1) := by decide +kernel
theorem dX7_weightOfLightestJoins_6 : decode cX7_weightOfLightestJoins 6 = .ok (.getfield 10, 3) := by decide +kernel
theorem dX7_weightOfLightestJoins_9 : decode cX7_weightOfLightestJoins 9 = .ok (.getfield 205, 3) := by decide +kernel
theorem dX7_weightOfLightestJoins_12 : decode cX7_weightOfLightestJoins 12 = .ok (.if_icmp .ge 51, 3) := by decide +kernel
theorem dX7_weightOfLightestJoins_15 : decode cX7_weightOfLightestJoins 15 = .ok (.aload_n 0, 1) := by decide +kernel
theorem dX7_weightOfLightestJoins_16 : decode cX7_weightOfLightestJoins 16 = .ok (.invokevirtual 241, 3) := by decide +kernel
theorem dX7_weightOfLightestJoins_19 : decode cX7_weightOfLightestJoins 19 = .ok (.istore 4, 2) := by decide +kernel
theorem dX7_weightOfLightestJoins_21 : decode cX7_weightOfLightestJoins 21 = .ok (.iload 4, 2) := by decide +kernel
theorem dX7_weightOfLightestJoins_23 : decode cX7_weightOfLightestJoins 23 = .ok (.iconst (-1), 1) := by decide +kernel
theorem dX7_weightOfLightestJoins_24 : decode cX7_weightOfLightestJoins 24 = .ok (.if_icmp .ne 5, 3) := by decide +kernel
theorem dX7_weightOfLightestJoins_27 : decode cX7_weightOfLightestJoins 27 = .ok (.lload_n 1, 1) := by decide +kernel
theorem dX7_weightOfLightestJoins_28 : decode cX7_weightOfLightestJoins 28 = .ok (.lreturn, 1) := by decide +kernel
theorem dX7_weightOfLightestJoins_29 : decode cX7_weightOfLightestJoins 29 = .ok (.aload_n 0, 1) := by decide +kernel
theorem dX7_weightOfLightestJoins_30 : decode cX7_weightOfLightestJoins 30 = .ok (.getfield 26, 3) := by decide +kernel
theorem dX7_weightOfLightestJoins_33 : decode cX7_weightOfLightestJoins 33 = .ok (.aload_n 0, 1) := by decide +kernel
theorem dX7_weightOfLightestJoins_34 : decode cX7_weightOfLightestJoins 34 = .ok (.getfield 10, 3) := by decide +kernel
theorem dX7_weightOfLightestJoins_37 : decode cX7_weightOfLightestJoins 37 = .ok (.iload 4, 2) := by decide +kernel
theorem dX7_weightOfLightestJoins_39 : decode cX7_weightOfLightestJoins 39 = .ok (.invokevirtual 237, 3) := by decide +kernel
theorem dX7_weightOfLightestJoins_42 : decode cX7_weightOfLightestJoins 42 = .ok (.pop2, 1) := by decide +kernel
theorem dX7_weightOfLightestJoins_43 : decode cX7_weightOfLightestJoins 43 = .ok (.lload_n 1, 1) := by decide +kernel
theorem dX7_weightOfLightestJoins_44 : decode cX7_weightOfLightestJoins 44 = .ok (.aload_n 0, 1) := by decide +kernel
theorem dX7_weightOfLightestJoins_45 : decode cX7_weightOfLightestJoins 45 = .ok (.getfield 10, 3) := by decide +kernel
theorem dX7_weightOfLightestJoins_48 : decode cX7_weightOfLightestJoins 48 = .ok (.getfield 158, 3) := by decide +kernel
theorem dX7_weightOfLightestJoins_51 : decode cX7_weightOfLightestJoins 51 = .ok (.iload 4, 2) := by decide +kernel
theorem dX7_weightOfLightestJoins_53 : decode cX7_weightOfLightestJoins 53 = .ok (.iaload, 1) := by decide +kernel
theorem dX7_weightOfLightestJoins_54 : decode cX7_weightOfLightestJoins 54 = .ok (.i2l, 1) := by decide +kernel
theorem dX7_weightOfLightestJoins_55 : decode cX7_weightOfLightestJoins 55 = .ok (.ladd, 1) := by decide +kernel
theorem dX7_weightOfLightestJoins_56 : decode cX7_weightOfLightestJoins 56 = .ok (.lstore_n 1, 1) := by decide +kernel
theorem dX7_weightOfLightestJoins_57 : decode cX7_weightOfLightestJoins 57 = .ok (.iinc 3 1, 3) := by decide +kernel
theorem dX7_weightOfLightestJoins_60 : decode cX7_weightOfLightestJoins 60 = .ok (.goto (-56), 3) := by decide +kernel
theorem dX7_weightOfLightestJoins_63 : decode cX7_weightOfLightestJoins 63 = .ok (.lload_n 1, 1) := by decide +kernel
theorem dX7_weightOfLightestJoins_64 : decode cX7_weightOfLightestJoins 64 = .ok (.lreturn, 1) := by decide +kernel
set_option maxRecDepth 20000 in
theorem ggX7_lightestJoin_X3_together : GoodIn wsX7_lightestJoin wsX3_together := goodIn_r _ [7, 8, 22, 23, 24, 25] (by decide +kernel) (by decide +kernel)
set_option maxRecDepth 20000 in
theorem gX7_lightestJoin_X3_together : GoodIn wsX7_lightestJoin (wsV RX7 95 RX3 yX3_together wsX3_together) := goodIn_app (goodIn_of _ (by decide +kernel)) ggX7_lightestJoin_X3_together
theorem dX7_lightestJoin_0 : decode cX7_lightestJoin 0 = .ok (.iconst (-1), 1) := by decide +kernel
theorem dX7_lightestJoin_1 : decode cX7_lightestJoin 1 = .ok (.istore_n 1, 1) := by decide +kernel
theorem dX7_lightestJoin_2 : decode cX7_lightestJoin 2 = .ok (.iconst 0, 1) := by decide +kernel
theorem dX7_lightestJoin_3 : decode cX7_lightestJoin 3 = .ok (.istore_n 2, 1) := by decide +kernel
theorem dX7_lightestJoin_4 : decode cX7_lightestJoin 4 = .ok (.iload_n 2, 1) := by decide +kernel
theorem dX7_lightestJoin_5 : decode cX7_lightestJoin 5 = .ok (.aload_n 0, 1) := by decide +kernel
theorem dX7_lightestJoin_6 : decode cX7_lightestJoin 6 = .ok (.getfield 10, 3) := by decide +kernel
theorem dX7_lightestJoin_9 : decode cX7_lightestJoin 9 = .ok (.getfield 69, 3) := by decide +kernel
theorem dX7_lightestJoin_12 : decode cX7_lightestJoin 12 = .ok (.if_icmp .ge 65, 3) := by decide +kernel
theorem dX7_lightestJoin_15 : decode cX7_lightestJoin 15 = .ok (.aload_n 0, 1) := by decide +kernel
theorem dX7_lightestJoin_16 : decode cX7_lightestJoin 16 = .ok (.getfield 26, 3) := by decide +kernel
theorem dX7_lightestJoin_19 : decode cX7_lightestJoin 19 = .ok (.aload_n 0, 1) := by decide +kernel
theorem dX7_lightestJoin_20 : decode cX7_lightestJoin 20 = .ok (.getfield 10, 3) := by decide +kernel
theorem dX7_lightestJoin_23 : decode cX7_lightestJoin 23 = .ok (.getfield 141, 3) := by decide +kernel
theorem dX7_lightestJoin_26 : decode cX7_lightestJoin 26 = .ok (.iload_n 2, 1) := by decide +kernel
theorem dX7_lightestJoin_27 : decode cX7_lightestJoin 27 = .ok (.iaload, 1) := by decide +kernel
theorem dX7_lightestJoin_28 : decode cX7_lightestJoin 28 = .ok (.aload_n 0, 1) := by decide +kernel
theorem dX7_lightestJoin_29 : decode cX7_lightestJoin 29 = .ok (.getfield 10, 3) := by decide +kernel
theorem dX7_lightestJoin_32 : decode cX7_lightestJoin 32 = .ok (.getfield 149, 3) := by decide +kernel
theorem dX7_lightestJoin_35 : decode cX7_lightestJoin 35 = .ok (.iload_n 2, 1) := by decide +kernel
theorem dX7_lightestJoin_36 : decode cX7_lightestJoin 36 = .ok (.iaload, 1) := by decide +kernel
theorem dX7_lightestJoin_37 : decode cX7_lightestJoin 37 = .ok (.invokevirtual 95, 3) := by decide +kernel
theorem dX7_lightestJoin_40 : decode cX7_lightestJoin 40 = .ok (.ifCond .ne 31, 3) := by decide +kernel
theorem dX7_lightestJoin_43 : decode cX7_lightestJoin 43 = .ok (.iload_n 1, 1) := by decide +kernel
theorem dX7_lightestJoin_44 : decode cX7_lightestJoin 44 = .ok (.iconst (-1), 1) := by decide +kernel
theorem dX7_lightestJoin_45 : decode cX7_lightestJoin 45 = .ok (.if_icmp .eq 24, 3) := by decide +kernel
theorem dX7_lightestJoin_48 : decode cX7_lightestJoin 48 = .ok (.aload_n 0, 1) := by decide +kernel
theorem dX7_lightestJoin_49 : decode cX7_lightestJoin 49 = .ok (.getfield 10, 3) := by decide +kernel
theorem dX7_lightestJoin_52 : decode cX7_lightestJoin 52 = .ok (.getfield 158, 3) := by decide +kernel
theorem dX7_lightestJoin_55 : decode cX7_lightestJoin 55 = .ok (.iload_n 2, 1) := by decide +kernel
theorem dX7_lightestJoin_56 : decode cX7_lightestJoin 56 = .ok (.iaload, 1) := by decide +kernel
theorem dX7_lightestJoin_57 : decode cX7_lightestJoin 57 = .ok (.aload_n 0, 1) := by decide +kernel
theorem dX7_lightestJoin_58 : decode cX7_lightestJoin 58 = .ok (.getfield 10, 3) := by decide +kernel
theorem dX7_lightestJoin_61 : decode cX7_lightestJoin 61 = .ok (.getfield 158, 3) := by decide +kernel
theorem dX7_lightestJoin_64 : decode cX7_lightestJoin 64 = .ok (.iload_n 1, 1) := by decide +kernel
theorem dX7_lightestJoin_65 : decode cX7_lightestJoin 65 = .ok (.iaload, 1) := by decide +kernel
theorem dX7_lightestJoin_66 : decode cX7_lightestJoin 66 = .ok (.if_icmp .ge 5, 3) := by decide +kernel
theorem dX7_lightestJoin_69 : decode cX7_lightestJoin 69 = .ok (.iload_n 2, 1) := by decide +kernel
theorem dX7_lightestJoin_70 : decode cX7_lightestJoin 70 = .ok (.istore_n 1, 1) := by decide +kernel
theorem dX7_lightestJoin_71 : decode cX7_lightestJoin 71 = .ok (.iinc 2 1, 3) := by decide +kernel
theorem dX7_lightestJoin_74 : decode cX7_lightestJoin 74 = .ok (.goto (-70), 3) := by decide +kernel
theorem dX7_lightestJoin_77 : decode cX7_lightestJoin 77 = .ok (.iload_n 1, 1) := by decide +kernel
theorem dX7_lightestJoin_78 : decode cX7_lightestJoin 78 = .ok (.ireturn, 1) := by decide +kernel
set_option maxRecDepth 20000 in
theorem ggX7_countGroups_X7_joinWhole : GoodIn wsX7_countGroups wsX7_joinWhole := goodIn_r _ [6, 7, 8, 9, 10, 5, 11, 1, 12, 13, 14, 15, 16, 17, 18, 19, 20, 21, 22, 23, 24, 25, 26, 27, 28, 29, 30, 31, 32, 33, 34, 35, 36, 37, 38, 39, 40, 41, 42, 43, 48, 49, 50, 51, 52, 44, 45, 46, 47] (by decide +kernel) (by decide +kernel)
set_option maxRecDepth 20000 in
theorem gX7_countGroups_X7_joinWhole : GoodIn wsX7_countGroups (wsV RX7 91 RX7 yX7_joinWhole wsX7_joinWhole) := goodIn_app (goodIn_of _ (by decide +kernel)) ggX7_countGroups_X7_joinWhole
theorem dX7_countGroups_0 : decode cX7_countGroups 0 = .ok (.aload_n 0, 1) := by decide +kernel
theorem dX7_countGroups_1 : decode cX7_countGroups 1 = .ok (.invokevirtual 91, 3) := by decide +kernel
theorem dX7_countGroups_4 : decode cX7_countGroups 4 = .ok (.pop, 1) := by decide +kernel
theorem dX7_countGroups_5 : decode cX7_countGroups 5 = .ok (.aload_n 0, 1) := by decide +kernel
theorem dX7_countGroups_6 : decode cX7_countGroups 6 = .ok (.getfield 26, 3) := by decide +kernel
theorem dX7_countGroups_9 : decode cX7_countGroups 9 = .ok (.getfield 244, 3) := by decide +kernel
theorem dX7_countGroups_12 : decode cX7_countGroups 12 = .ok (.ireturn, 1) := by decide +kernel
set_option maxRecDepth 20000 in
theorem ggX7_countEdgesInNoCycle_X7_fillRings : GoodIn wsX7_countEdgesInNoCycle wsX7_fillRings := goodIn_r _ [7, 8, 2, 1, 9, 10, 11, 12, 13, 14, 15, 16, 17, 18, 19, 20, 21, 22, 23, 24, 25, 26, 27, 28, 29, 37, 38, 39, 40, 41, 42, 43, 44, 45, 46, 47, 48, 49, 50, 51, 52, 53] (by decide +kernel) (by decide +kernel)
set_option maxRecDepth 20000 in
theorem gX7_countEdgesInNoCycle_X7_fillRings : GoodIn wsX7_countEdgesInNoCycle (wsV RX7 176 RX7 yX7_fillRings wsX7_fillRings) := goodIn_app (goodIn_of _ (by decide +kernel)) ggX7_countEdgesInNoCycle_X7_fillRings
set_option maxRecDepth 20000 in
theorem ggX7_countEdgesInNoCycle_J13_bitCount_95d88 : GoodIn wsX7_countEdgesInNoCycle wsJ13_bitCount_95d88 := goodIn_r _ [33, 34, 35, 36] (by decide +kernel) (by decide +kernel)
set_option maxRecDepth 20000 in
theorem gX7_countEdgesInNoCycle_J13_bitCount_95d88 : GoodIn wsX7_countEdgesInNoCycle (va_wsS RX7 246 yJ13_bitCount_95d88 wsJ13_bitCount_95d88) := goodIn_app (goodIn_of _ (by decide +kernel)) ggX7_countEdgesInNoCycle_J13_bitCount_95d88
theorem dX7_countEdgesInNoCycle_0 : decode cX7_countEdgesInNoCycle 0 = .ok (.aload_n 0, 1) := by decide +kernel
theorem dX7_countEdgesInNoCycle_1 : decode cX7_countEdgesInNoCycle 1 = .ok (.invokevirtual 176, 3) := by decide +kernel
theorem dX7_countEdgesInNoCycle_4 : decode cX7_countEdgesInNoCycle 4 = .ok (.istore_n 1, 1) := by decide +kernel
theorem dX7_countEdgesInNoCycle_5 : decode cX7_countEdgesInNoCycle 5 = .ok (.lconst 0, 1) := by decide +kernel
theorem dX7_countEdgesInNoCycle_6 : decode cX7_countEdgesInNoCycle 6 = .ok (.lstore_n 2, 1) := by decide +kernel
theorem dX7_countEdgesInNoCycle_7 : decode cX7_countEdgesInNoCycle 7 = .ok (.iconst 0, 1) := by decide +kernel
theorem dX7_countEdgesInNoCycle_8 : decode cX7_countEdgesInNoCycle 8 = .ok (.istore 4, 2) := by decide +kernel
theorem dX7_countEdgesInNoCycle_10 : decode cX7_countEdgesInNoCycle 10 = .ok (.iload 4, 2) := by decide +kernel
theorem dX7_countEdgesInNoCycle_12 : decode cX7_countEdgesInNoCycle 12 = .ok (.iload_n 1, 1) := by decide +kernel
theorem dX7_countEdgesInNoCycle_13 : decode cX7_countEdgesInNoCycle 13 = .ok (.if_icmp .ge 19, 3) := by decide +kernel
theorem dX7_countEdgesInNoCycle_16 : decode cX7_countEdgesInNoCycle 16 = .ok (.lload_n 2, 1) := by decide +kernel
theorem dX7_countEdgesInNoCycle_17 : decode cX7_countEdgesInNoCycle 17 = .ok (.aload_n 0, 1) := by decide +kernel
theorem dX7_countEdgesInNoCycle_18 : decode cX7_countEdgesInNoCycle 18 = .ok (.getfield 58, 3) := by decide +kernel
theorem dX7_countEdgesInNoCycle_21 : decode cX7_countEdgesInNoCycle 21 = .ok (.iload 4, 2) := by decide +kernel
theorem dX7_countEdgesInNoCycle_23 : decode cX7_countEdgesInNoCycle 23 = .ok (.laload, 1) := by decide +kernel
theorem dX7_countEdgesInNoCycle_24 : decode cX7_countEdgesInNoCycle 24 = .ok (.lor, 1) := by decide +kernel
theorem dX7_countEdgesInNoCycle_25 : decode cX7_countEdgesInNoCycle 25 = .ok (.lstore_n 2, 1) := by decide +kernel
theorem dX7_countEdgesInNoCycle_26 : decode cX7_countEdgesInNoCycle 26 = .ok (.iinc 4 1, 3) := by decide +kernel
theorem dX7_countEdgesInNoCycle_29 : decode cX7_countEdgesInNoCycle 29 = .ok (.goto (-19), 3) := by decide +kernel
theorem dX7_countEdgesInNoCycle_32 : decode cX7_countEdgesInNoCycle 32 = .ok (.aload_n 0, 1) := by decide +kernel
theorem dX7_countEdgesInNoCycle_33 : decode cX7_countEdgesInNoCycle 33 = .ok (.getfield 10, 3) := by decide +kernel
theorem dX7_countEdgesInNoCycle_36 : decode cX7_countEdgesInNoCycle 36 = .ok (.getfield 69, 3) := by decide +kernel
theorem dX7_countEdgesInNoCycle_39 : decode cX7_countEdgesInNoCycle 39 = .ok (.lload_n 2, 1) := by decide +kernel
theorem dX7_countEdgesInNoCycle_40 : decode cX7_countEdgesInNoCycle 40 = .ok (.invokestatic 246, 3) := by decide +kernel
theorem dX7_countEdgesInNoCycle_43 : decode cX7_countEdgesInNoCycle 43 = .ok (.isub, 1) := by decide +kernel
theorem dX7_countEdgesInNoCycle_44 : decode cX7_countEdgesInNoCycle 44 = .ok (.ireturn, 1) := by decide +kernel
set_option maxRecDepth 20000 in
theorem ggX7_hasOddCycle_X7_fillRings : GoodIn wsX7_hasOddCycle wsX7_fillRings := goodIn_r _ [6, 7, 8, 1, 9, 10, 11, 12, 13, 14, 15, 16, 17, 18, 19, 20, 21, 22, 23, 24, 25, 26, 27, 28, 29, 37, 38, 39, 40, 41, 42, 43, 44, 45, 46, 47, 48, 49, 50, 51, 52, 53] (by decide +kernel) (by decide +kernel)
set_option maxRecDepth 20000 in
theorem gX7_hasOddCycle_X7_fillRings : GoodIn wsX7_hasOddCycle (wsV RX7 176 RX7 yX7_fillRings wsX7_fillRings) := goodIn_app (goodIn_of _ (by decide +kernel)) ggX7_hasOddCycle_X7_fillRings
set_option maxRecDepth 20000 in
theorem ggX7_hasOddCycle_J13_bitCount_95d88 : GoodIn wsX7_hasOddCycle wsJ13_bitCount_95d88 := goodIn_r _ [33, 34, 35, 36] (by decide +kernel) (by decide +kernel)
set_option maxRecDepth 20000 in
theorem gX7_hasOddCycle_J13_bitCount_95d88 : GoodIn wsX7_hasOddCycle (va_wsS RX7 246 yJ13_bitCount_95d88 wsJ13_bitCount_95d88) := goodIn_app (goodIn_of _ (by decide +kernel)) ggX7_hasOddCycle_J13_bitCount_95d88
theorem dX7_hasOddCycle_0 : decode cX7_hasOddCycle 0 = .ok (.aload_n 0, 1) := by decide +kernel
theorem dX7_hasOddCycle_1 : decode cX7_hasOddCycle 1 = .ok (.invokevirtual 176, 3) := by decide +kernel
theorem dX7_hasOddCycle_4 : decode cX7_hasOddCycle 4 = .ok (.istore_n 1, 1) := by decide +kernel
theorem dX7_hasOddCycle_5 : decode cX7_hasOddCycle 5 = .ok (.iconst 0, 1) := by decide +kernel
theorem dX7_hasOddCycle_6 : decode cX7_hasOddCycle 6 = .ok (.istore_n 2, 1) := by decide +kernel
theorem dX7_hasOddCycle_7 : decode cX7_hasOddCycle 7 = .ok (.iload_n 2, 1) := by decide +kernel
theorem dX7_hasOddCycle_8 : decode cX7_hasOddCycle 8 = .ok (.iload_n 1, 1) := by decide +kernel
theorem dX7_hasOddCycle_9 : decode cX7_hasOddCycle 9 = .ok (.if_icmp .ge 25, 3) := by decide +kernel
theorem dX7_hasOddCycle_12 : decode cX7_hasOddCycle 12 = .ok (.aload_n 0, 1) := by decide +kernel
theorem dX7_hasOddCycle_13 : decode cX7_hasOddCycle 13 = .ok (.getfield 58, 3) := by decide +kernel
theorem dX7_hasOddCycle_16 : decode cX7_hasOddCycle 16 = .ok (.iload_n 2, 1) := by decide +kernel
theorem dX7_hasOddCycle_17 : decode cX7_hasOddCycle 17 = .ok (.laload, 1) := by decide +kernel
theorem dX7_hasOddCycle_18 : decode cX7_hasOddCycle 18 = .ok (.invokestatic 246, 3) := by decide +kernel
theorem dX7_hasOddCycle_21 : decode cX7_hasOddCycle 21 = .ok (.iconst 2, 1) := by decide +kernel
theorem dX7_hasOddCycle_22 : decode cX7_hasOddCycle 22 = .ok (.irem, 1) := by decide +kernel
theorem dX7_hasOddCycle_23 : decode cX7_hasOddCycle 23 = .ok (.ifCond .eq 5, 3) := by decide +kernel
theorem dX7_hasOddCycle_26 : decode cX7_hasOddCycle 26 = .ok (.iconst 1, 1) := by decide +kernel
theorem dX7_hasOddCycle_27 : decode cX7_hasOddCycle 27 = .ok (.ireturn, 1) := by decide +kernel
theorem dX7_hasOddCycle_28 : decode cX7_hasOddCycle 28 = .ok (.iinc 2 1, 3) := by decide +kernel
theorem dX7_hasOddCycle_31 : decode cX7_hasOddCycle 31 = .ok (.goto (-24), 3) := by decide +kernel
theorem dX7_hasOddCycle_34 : decode cX7_hasOddCycle 34 = .ok (.iconst 0, 1) := by decide +kernel
theorem dX7_hasOddCycle_35 : decode cX7_hasOddCycle 35 = .ok (.ireturn, 1) := by decide +kernel
set_option maxRecDepth 20000 in
theorem ggX7_countCuttingVertices_X7_countGroups : GoodIn wsX7_countCuttingVertices wsX7_countGroups := goodIn_r _ [7, 2, 8, 9, 10, 6, 11, 1, 12, 13, 14, 15, 16, 17, 18, 19, 20, 21, 22, 23, 24, 25, 26, 27, 28, 29, 30, 31, 32, 33, 34, 35, 36, 37, 38, 39, 48, 49, 50, 51, 52, 53, 54, 55, 61, 62, 63, 64, 56, 57, 58, 59, 60] (by decide +kernel) (by decide +kernel)
set_option maxRecDepth 20000 in
theorem gX7_countCuttingVertices_X7_countGroups : GoodIn wsX7_countCuttingVertices (wsV RX7 208 RX7 yX7_countGroups wsX7_countGroups) := goodIn_app (goodIn_of _ (by decide +kernel)) ggX7_countCuttingVertices_X7_countGroups
set_option maxRecDepth 20000 in
theorem ggX7_countCuttingVertices_X2_edgesApartFrom : GoodIn wsX7_countCuttingVertices wsX2_edgesApartFrom := goodIn_r _ [44, 45, 46, 47, 56, 57, 58, 59, 60] (by decide +kernel) (by decide +kernel)
set_option maxRecDepth 20000 in
theorem gX7_countCuttingVertices_X2_edgesApartFrom : GoodIn wsX7_countCuttingVertices (wsV RX7 251 RX2 yX2_edgesApartFrom wsX2_edgesApartFrom) := goodIn_app (goodIn_of _ (by decide +kernel)) ggX7_countCuttingVertices_X2_edgesApartFrom
set_option maxRecDepth 20000 in
theorem ggX7_countCuttingVertices_X7_joinSet : GoodIn wsX7_countCuttingVertices wsX7_joinSet := goodIn_r _ [15, 2, 1, 16, 17, 18, 19, 20, 21, 22, 23, 24, 25, 26, 6, 27, 28, 29, 30, 31, 32, 33, 34, 35, 36, 37, 38, 39, 48, 49, 50, 51, 52, 53, 54, 55, 56, 57, 58, 59, 60, 61, 62, 63, 64] (by decide +kernel) (by decide +kernel)
set_option maxRecDepth 20000 in
theorem gX7_countCuttingVertices_X7_joinSet : GoodIn wsX7_countCuttingVertices (wsV RX7 114 RX7 yX7_joinSet wsX7_joinSet) := goodIn_app (goodIn_of _ (by decide +kernel)) ggX7_countCuttingVertices_X7_joinSet
theorem dX7_countCuttingVertices_0 : decode cX7_countCuttingVertices 0 = .ok (.aload_n 0, 1) := by decide +kernel
theorem dX7_countCuttingVertices_1 : decode cX7_countCuttingVertices 1 = .ok (.invokevirtual 208, 3) := by decide +kernel
theorem dX7_countCuttingVertices_4 : decode cX7_countCuttingVertices 4 = .ok (.istore_n 1, 1) := by decide +kernel
theorem dX7_countCuttingVertices_5 : decode cX7_countCuttingVertices 5 = .ok (.iconst 0, 1) := by decide +kernel
theorem dX7_countCuttingVertices_6 : decode cX7_countCuttingVertices 6 = .ok (.istore_n 2, 1) := by decide +kernel
theorem dX7_countCuttingVertices_7 : decode cX7_countCuttingVertices 7 = .ok (.iconst 0, 1) := by decide +kernel
theorem dX7_countCuttingVertices_8 : decode cX7_countCuttingVertices 8 = .ok (.istore_n 3, 1) := by decide +kernel
theorem dX7_countCuttingVertices_9 : decode cX7_countCuttingVertices 9 = .ok (.iload_n 3, 1) := by decide +kernel
theorem dX7_countCuttingVertices_10 : decode cX7_countCuttingVertices 10 = .ok (.aload_n 0, 1) := by decide +kernel
theorem dX7_countCuttingVertices_11 : decode cX7_countCuttingVertices 11 = .ok (.getfield 10, 3) := by decide +kernel
theorem dX7_countCuttingVertices_14 : decode cX7_countCuttingVertices 14 = .ok (.getfield 205, 3) := by decide +kernel
theorem dX7_countCuttingVertices_17 : decode cX7_countCuttingVertices 17 = .ok (.if_icmp .ge 38, 3) := by decide +kernel
theorem dX7_countCuttingVertices_20 : decode cX7_countCuttingVertices 20 = .ok (.aload_n 0, 1) := by decide +kernel
theorem dX7_countCuttingVertices_21 : decode cX7_countCuttingVertices 21 = .ok (.aload_n 0, 1) := by decide +kernel
theorem dX7_countCuttingVertices_22 : decode cX7_countCuttingVertices 22 = .ok (.getfield 10, 3) := by decide +kernel
theorem dX7_countCuttingVertices_25 : decode cX7_countCuttingVertices 25 = .ok (.iload_n 3, 1) := by decide +kernel
theorem dX7_countCuttingVertices_26 : decode cX7_countCuttingVertices 26 = .ok (.invokevirtual 251, 3) := by decide +kernel
theorem dX7_countCuttingVertices_29 : decode cX7_countCuttingVertices 29 = .ok (.invokevirtual 114, 3) := by decide +kernel
theorem dX7_countCuttingVertices_32 : decode cX7_countCuttingVertices 32 = .ok (.pop, 1) := by decide +kernel
theorem dX7_countCuttingVertices_33 : decode cX7_countCuttingVertices 33 = .ok (.aload_n 0, 1) := by decide +kernel
theorem dX7_countCuttingVertices_34 : decode cX7_countCuttingVertices 34 = .ok (.getfield 26, 3) := by decide +kernel
theorem dX7_countCuttingVertices_37 : decode cX7_countCuttingVertices 37 = .ok (.getfield 244, 3) := by decide +kernel
theorem dX7_countCuttingVertices_40 : decode cX7_countCuttingVertices 40 = .ok (.iconst 1, 1) := by decide +kernel
theorem dX7_countCuttingVertices_41 : decode cX7_countCuttingVertices 41 = .ok (.isub, 1) := by decide +kernel
theorem dX7_countCuttingVertices_42 : decode cX7_countCuttingVertices 42 = .ok (.iload_n 1, 1) := by decide +kernel
theorem dX7_countCuttingVertices_43 : decode cX7_countCuttingVertices 43 = .ok (.if_icmp .le 6, 3) := by decide +kernel
theorem dX7_countCuttingVertices_46 : decode cX7_countCuttingVertices 46 = .ok (.iinc 2 1, 3) := by decide +kernel
theorem dX7_countCuttingVertices_49 : decode cX7_countCuttingVertices 49 = .ok (.iinc 3 1, 3) := by decide +kernel
theorem dX7_countCuttingVertices_52 : decode cX7_countCuttingVertices 52 = .ok (.goto (-43), 3) := by decide +kernel
theorem dX7_countCuttingVertices_55 : decode cX7_countCuttingVertices 55 = .ok (.iload_n 2, 1) := by decide +kernel
theorem dX7_countCuttingVertices_56 : decode cX7_countCuttingVertices 56 = .ok (.ireturn, 1) := by decide +kernel
theorem dX8_init_0 : decode cX8_init 0 = .ok (.aload_n 0, 1) := by decide +kernel
theorem dX8_init_1 : decode cX8_init 1 = .ok (.invokespecial 1, 3) := by decide +kernel
theorem dX8_init_4 : decode cX8_init 4 = .ok (.aload_n 0, 1) := by decide +kernel
theorem dX8_init_5 : decode cX8_init 5 = .ok (.iconst 1, 1) := by decide +kernel
theorem dX8_init_6 : decode cX8_init 6 = .ok (.putfield 7, 3) := by decide +kernel
theorem dX8_init_9 : decode cX8_init 9 = .ok (.aload_n 0, 1) := by decide +kernel
theorem dX8_init_10 : decode cX8_init 10 = .ok (.bipush 40, 2) := by decide +kernel
theorem dX8_init_12 : decode cX8_init 12 = .ok (.newarray .int, 2) := by decide +kernel
theorem dX8_init_14 : decode cX8_init 14 = .ok (.putfield 13, 3) := by decide +kernel
theorem dX8_init_17 : decode cX8_init 17 = .ok (.aload_n 0, 1) := by decide +kernel
theorem dX8_init_18 : decode cX8_init 18 = .ok (.bipush 40, 2) := by decide +kernel
theorem dX8_init_20 : decode cX8_init 20 = .ok (.newarray .int, 2) := by decide +kernel
theorem dX8_init_22 : decode cX8_init 22 = .ok (.putfield 17, 3) := by decide +kernel
theorem dX8_init_25 : decode cX8_init 25 = .ok (.aload_n 0, 1) := by decide +kernel
theorem dX8_init_26 : decode cX8_init 26 = .ok (.bipush 40, 2) := by decide +kernel
theorem dX8_init_28 : decode cX8_init 28 = .ok (.newarray .int, 2) := by decide +kernel
theorem dX8_init_30 : decode cX8_init 30 = .ok (.putfield 20, 3) := by decide +kernel
theorem dX8_init_33 : decode cX8_init 33 = .ok (.aload_n 0, 1) := by decide +kernel
theorem dX8_init_34 : decode cX8_init 34 = .ok (.bipush 64, 2) := by decide +kernel
theorem dX8_init_36 : decode cX8_init 36 = .ok (.newarray .long, 2) := by decide +kernel
theorem dX8_init_38 : decode cX8_init 38 = .ok (.putfield 23, 3) := by decide +kernel
theorem dX8_init_41 : decode cX8_init 41 = .ok (.aload_n 0, 1) := by decide +kernel
theorem dX8_init_42 : decode cX8_init 42 = .ok (.bipush 16, 2) := by decide +kernel
theorem dX8_init_44 : decode cX8_init 44 = .ok (.newarray .int, 2) := by decide +kernel
theorem dX8_init_46 : decode cX8_init 46 = .ok (.putfield 27, 3) := by decide +kernel
theorem dX8_init_49 : decode cX8_init 49 = .ok (.aload_n 0, 1) := by decide +kernel
theorem dX8_init_50 : decode cX8_init 50 = .ok (.bipush 16, 2) := by decide +kernel
theorem dX8_init_52 : decode cX8_init 52 = .ok (.newarray .long, 2) := by decide +kernel
theorem dX8_init_54 : decode cX8_init 54 = .ok (.putfield 30, 3) := by decide +kernel
theorem dX8_init_57 : decode cX8_init 57 = .ok (.aload_n 0, 1) := by decide +kernel
theorem dX8_init_58 : decode cX8_init 58 = .ok (.bipush 40, 2) := by decide +kernel
theorem dX8_init_60 : decode cX8_init 60 = .ok (.newarray .long, 2) := by decide +kernel
theorem dX8_init_62 : decode cX8_init 62 = .ok (.putfield 33, 3) := by decide +kernel
theorem dX8_init_65 : decode cX8_init 65 = .ok (.aload_n 0, 1) := by decide +kernel
theorem dX8_init_66 : decode cX8_init 66 = .ok (.bipush 40, 2) := by decide +kernel
theorem dX8_init_68 : decode cX8_init 68 = .ok (.newarray .int, 2) := by decide +kernel
theorem dX8_init_70 : decode cX8_init 70 = .ok (.putfield 36, 3) := by decide +kernel
theorem dX8_init_73 : decode cX8_init 73 = .ok (.aload_n 0, 1) := by decide +kernel
theorem dX8_init_74 : decode cX8_init 74 = .ok (.sipush 16384, 3) := by decide +kernel
theorem dX8_init_77 : decode cX8_init 77 = .ok (.newarray .long, 2) := by decide +kernel
theorem dX8_init_79 : decode cX8_init 79 = .ok (.putfield 39, 3) := by decide +kernel
theorem dX8_init_82 : decode cX8_init 82 = .ok (.aload_n 0, 1) := by decide +kernel
theorem dX8_init_83 : decode cX8_init 83 = .ok (.sipush 16384, 3) := by decide +kernel
theorem dX8_init_86 : decode cX8_init 86 = .ok (.newarray .long, 2) := by decide +kernel
theorem dX8_init_88 : decode cX8_init 88 = .ok (.putfield 42, 3) := by decide +kernel
theorem dX8_init_91 : decode cX8_init 91 = .ok (.aload_n 0, 1) := by decide +kernel
theorem dX8_init_92 : decode cX8_init 92 = .ok (.bipush 64, 2) := by decide +kernel
theorem dX8_init_94 : decode cX8_init 94 = .ok (.newarray .long, 2) := by decide +kernel
theorem dX8_init_96 : decode cX8_init 96 = .ok (.putfield 45, 3) := by decide +kernel
theorem dX8_init_99 : decode cX8_init 99 = .ok (.aload_n 0, 1) := by decide +kernel
theorem dX8_init_100 : decode cX8_init 100 = .ok (.sipush 256, 3) := by decide +kernel
theorem dX8_init_103 : decode cX8_init 103 = .ok (.newarray .long, 2) := by decide +kernel
theorem dX8_init_105 : decode cX8_init 105 = .ok (.putfield 48, 3) := by decide +kernel
theorem dX8_init_108 : decode cX8_init 108 = .ok (.aload_n 0, 1) := by decide +kernel
theorem dX8_init_109 : decode cX8_init 109 = .ok (.bipush 16, 2) := by decide +kernel
theorem dX8_init_111 : decode cX8_init 111 = .ok (.newarray .int, 2) := by decide +kernel
theorem dX8_init_113 : decode cX8_init 113 = .ok (.putfield 51, 3) := by decide +kernel
theorem dX8_init_116 : decode cX8_init 116 = .ok (.aload_n 0, 1) := by decide +kernel
theorem dX8_init_117 : decode cX8_init 117 = .ok (.bipush 16, 2) := by decide +kernel
theorem dX8_init_119 : decode cX8_init 119 = .ok (.newarray .boolean, 2) := by decide +kernel
theorem dX8_init_121 : decode cX8_init 121 = .ok (.putfield 54, 3) := by decide +kernel
theorem dX8_init_124 : decode cX8_init 124 = .ok (.return_, 1) := by decide +kernel
theorem dX8_thrown_0 : decode cX8_thrown 0 = .ok (.aload_n 0, 1) := by decide +kernel
theorem dX8_thrown_1 : decode cX8_thrown 1 = .ok (.getfield 58, 3) := by decide +kernel
theorem dX8_thrown_4 : decode cX8_thrown 4 = .ok (.ireturn, 1) := by decide +kernel
theorem dX8_throwing_0 : decode cX8_throwing 0 = .ok (.aload_n 0, 1) := by decide +kernel
theorem dX8_throwing_1 : decode cX8_throwing 1 = .ok (.iload_n 1, 1) := by decide +kernel
theorem dX8_throwing_2 : decode cX8_throwing 2 = .ok (.ifCond .eq 7, 3) := by decide +kernel
theorem dX8_throwing_5 : decode cX8_throwing 5 = .ok (.iconst 1, 1) := by decide +kernel
theorem dX8_throwing_6 : decode cX8_throwing 6 = .ok (.goto 12, 3) := by decide +kernel
theorem dX8_throwing_9 : decode cX8_throwing 9 = .ok (.iload_n 2, 1) := by decide +kernel
theorem dX8_throwing_10 : decode cX8_throwing 10 = .ok (.ifCond .eq 7, 3) := by decide +kernel
theorem dX8_throwing_13 : decode cX8_throwing 13 = .ok (.iconst 2, 1) := by decide +kernel
theorem dX8_throwing_14 : decode cX8_throwing 14 = .ok (.goto 4, 3) := by decide +kernel
theorem dX8_throwing_17 : decode cX8_throwing 17 = .ok (.iconst 0, 1) := by decide +kernel
theorem dX8_throwing_18 : decode cX8_throwing 18 = .ok (.putfield 58, 3) := by decide +kernel
theorem dX8_throwing_21 : decode cX8_throwing 21 = .ok (.aload_n 0, 1) := by decide +kernel
theorem dX8_throwing_22 : decode cX8_throwing 22 = .ok (.getfield 58, 3) := by decide +kernel
theorem dX8_throwing_25 : decode cX8_throwing 25 = .ok (.ifCond .le 7, 3) := by decide +kernel
theorem dX8_throwing_28 : decode cX8_throwing 28 = .ok (.iconst 1, 1) := by decide +kernel
theorem dX8_throwing_29 : decode cX8_throwing 29 = .ok (.goto 4, 3) := by decide +kernel
theorem dX8_throwing_32 : decode cX8_throwing 32 = .ok (.iconst 0, 1) := by decide +kernel
theorem dX8_throwing_33 : decode cX8_throwing 33 = .ok (.ireturn, 1) := by decide +kernel
theorem dX8_isVertex_0 : decode cX8_isVertex 0 = .ok (.iload_n 1, 1) := by decide +kernel
theorem dX8_isVertex_1 : decode cX8_isVertex 1 = .ok (.ifCond .lt 15, 3) := by decide +kernel
theorem dX8_isVertex_4 : decode cX8_isVertex 4 = .ok (.iload_n 1, 1) := by decide +kernel
theorem dX8_isVertex_5 : decode cX8_isVertex 5 = .ok (.aload_n 0, 1) := by decide +kernel
theorem dX8_isVertex_6 : decode cX8_isVertex 6 = .ok (.getfield 7, 3) := by decide +kernel
theorem dX8_isVertex_9 : decode cX8_isVertex 9 = .ok (.if_icmp .ge 7, 3) := by decide +kernel
theorem dX8_isVertex_12 : decode cX8_isVertex 12 = .ok (.iconst 1, 1) := by decide +kernel
theorem dX8_isVertex_13 : decode cX8_isVertex 13 = .ok (.goto 4, 3) := by decide +kernel
theorem dX8_isVertex_16 : decode cX8_isVertex 16 = .ok (.iconst 0, 1) := by decide +kernel
theorem dX8_isVertex_17 : decode cX8_isVertex 17 = .ok (.ireturn, 1) := by decide +kernel
theorem dX8_isSet_0 : decode cX8_isSet 0 = .ok (.lload_n 1, 1) := by decide +kernel
theorem dX8_isSet_1 : decode cX8_isSet 1 = .ok (.aload_n 0, 1) := by decide +kernel
theorem dX8_isSet_2 : decode cX8_isSet 2 = .ok (.getfield 61, 3) := by decide +kernel
theorem dX8_isSet_5 : decode cX8_isSet 5 = .ok (.lushr, 1) := by decide +kernel
theorem dX8_isSet_6 : decode cX8_isSet 6 = .ok (.lconst 0, 1) := by decide +kernel
theorem dX8_isSet_7 : decode cX8_isSet 7 = .ok (.lcmp, 1) := by decide +kernel
theorem dX8_isSet_8 : decode cX8_isSet 8 = .ok (.ifCond .ne 7, 3) := by decide +kernel
theorem dX8_isSet_11 : decode cX8_isSet 11 = .ok (.iconst 1, 1) := by decide +kernel
theorem dX8_isSet_12 : decode cX8_isSet 12 = .ok (.goto 4, 3) := by decide +kernel
theorem dX8_isSet_15 : decode cX8_isSet 15 = .ok (.iconst 0, 1) := by decide +kernel
theorem dX8_isSet_16 : decode cX8_isSet 16 = .ok (.ireturn, 1) := by decide +kernel
theorem dX8_beginGroups_0 : decode cX8_beginGroups 0 = .ok (.aload_n 0, 1) := by decide +kernel
theorem dX8_beginGroups_1 : decode cX8_beginGroups 1 = .ok (.iconst 0, 1) := by decide +kernel
theorem dX8_beginGroups_2 : decode cX8_beginGroups 2 = .ok (.putfield 64, 3) := by decide +kernel
theorem dX8_beginGroups_5 : decode cX8_beginGroups 5 = .ok (.iconst 0, 1) := by decide +kernel
theorem dX8_beginGroups_6 : decode cX8_beginGroups 6 = .ok (.istore_n 1, 1) := by decide +kernel
theorem dX8_beginGroups_7 : decode cX8_beginGroups 7 = .ok (.iload_n 1, 1) := by decide +kernel
theorem dX8_beginGroups_8 : decode cX8_beginGroups 8 = .ok (.bipush 16, 2) := by decide +kernel
theorem dX8_beginGroups_10 : decode cX8_beginGroups 10 = .ok (.if_icmp .ge 23, 3) := by decide +kernel
theorem dX8_beginGroups_13 : decode cX8_beginGroups 13 = .ok (.aload_n 0, 1) := by decide +kernel
theorem dX8_beginGroups_14 : decode cX8_beginGroups 14 = .ok (.getfield 27, 3) := by decide +kernel
theorem dX8_beginGroups_17 : decode cX8_beginGroups 17 = .ok (.iload_n 1, 1) := by decide +kernel
theorem dX8_beginGroups_18 : decode cX8_beginGroups 18 = .ok (.iload_n 1, 1) := by decide +kernel
theorem dX8_beginGroups_19 : decode cX8_beginGroups 19 = .ok (.iastore, 1) := by decide +kernel
theorem dX8_beginGroups_20 : decode cX8_beginGroups 20 = .ok (.aload_n 0, 1) := by decide +kernel
theorem dX8_beginGroups_21 : decode cX8_beginGroups 21 = .ok (.getfield 30, 3) := by decide +kernel
theorem dX8_beginGroups_24 : decode cX8_beginGroups 24 = .ok (.iload_n 1, 1) := by decide +kernel
theorem dX8_beginGroups_25 : decode cX8_beginGroups 25 = .ok (.lconst 0, 1) := by decide +kernel
theorem dX8_beginGroups_26 : decode cX8_beginGroups 26 = .ok (.lastore, 1) := by decide +kernel
theorem dX8_beginGroups_27 : decode cX8_beginGroups 27 = .ok (.iinc 1 1, 3) := by decide +kernel
theorem dX8_beginGroups_30 : decode cX8_beginGroups 30 = .ok (.goto (-23), 3) := by decide +kernel
theorem dX8_beginGroups_33 : decode cX8_beginGroups 33 = .ok (.return_, 1) := by decide +kernel
theorem dX8_joins_0 : decode cX8_joins 0 = .ok (.aload_n 0, 1) := by decide +kernel
theorem dX8_joins_1 : decode cX8_joins 1 = .ok (.getfield 13, 3) := by decide +kernel
theorem dX8_joins_4 : decode cX8_joins 4 = .ok (.iload_n 1, 1) := by decide +kernel
theorem dX8_joins_5 : decode cX8_joins 5 = .ok (.iaload, 1) := by decide +kernel
theorem dX8_joins_6 : decode cX8_joins 6 = .ok (.istore_n 2, 1) := by decide +kernel
theorem dX8_joins_7 : decode cX8_joins 7 = .ok (.aload_n 0, 1) := by decide +kernel
theorem dX8_joins_8 : decode cX8_joins 8 = .ok (.getfield 17, 3) := by decide +kernel
theorem dX8_joins_11 : decode cX8_joins 11 = .ok (.iload_n 1, 1) := by decide +kernel
theorem dX8_joins_12 : decode cX8_joins 12 = .ok (.iaload, 1) := by decide +kernel
theorem dX8_joins_13 : decode cX8_joins 13 = .ok (.istore_n 3, 1) := by decide +kernel
theorem dX8_joins_14 : decode cX8_joins 14 = .ok (.aload_n 0, 1) := by decide +kernel
theorem dX8_joins_15 : decode cX8_joins 15 = .ok (.getfield 27, 3) := by decide +kernel
theorem dX8_joins_18 : decode cX8_joins 18 = .ok (.iload_n 2, 1) := by decide +kernel
theorem dX8_joins_19 : decode cX8_joins 19 = .ok (.iaload, 1) := by decide +kernel
theorem dX8_joins_20 : decode cX8_joins 20 = .ok (.aload_n 0, 1) := by decide +kernel
theorem dX8_joins_21 : decode cX8_joins 21 = .ok (.getfield 27, 3) := by decide +kernel
theorem dX8_joins_24 : decode cX8_joins 24 = .ok (.iload_n 3, 1) := by decide +kernel
theorem dX8_joins_25 : decode cX8_joins 25 = .ok (.iaload, 1) := by decide +kernel
theorem dX8_joins_26 : decode cX8_joins 26 = .ok (.if_icmp .ne 51, 3) := by decide +kernel
theorem dX8_joins_29 : decode cX8_joins 29 = .ok (.aload_n 0, 1) := by decide +kernel
theorem dX8_joins_30 : decode cX8_joins 30 = .ok (.getfield 33, 3) := by decide +kernel
theorem dX8_joins_33 : decode cX8_joins 33 = .ok (.aload_n 0, 1) := by decide +kernel
theorem dX8_joins_34 : decode cX8_joins 34 = .ok (.getfield 64, 3) := by decide +kernel
theorem dX8_joins_37 : decode cX8_joins 37 = .ok (.aload_n 0, 1) := by decide +kernel
theorem dX8_joins_38 : decode cX8_joins 38 = .ok (.getfield 30, 3) := by decide +kernel
theorem dX8_joins_41 : decode cX8_joins 41 = .ok (.iload_n 2, 1) := by decide +kernel
theorem dX8_joins_42 : decode cX8_joins 42 = .ok (.laload, 1) := by decide +kernel
theorem dX8_joins_43 : decode cX8_joins 43 = .ok (.aload_n 0, 1) := by decide +kernel
theorem dX8_joins_44 : decode cX8_joins 44 = .ok (.getfield 30, 3) := by decide +kernel
theorem dX8_joins_47 : decode cX8_joins 47 = .ok (.iload_n 3, 1) := by decide +kernel
theorem dX8_joins_48 : decode cX8_joins 48 = .ok (.laload, 1) := by decide +kernel
theorem dX8_joins_49 : decode cX8_joins 49 = .ok (.lxor, 1) := by decide +kernel
theorem dX8_joins_50 : decode cX8_joins 50 = .ok (.lconst 1, 1) := by decide +kernel
theorem dX8_joins_51 : decode cX8_joins 51 = .ok (.iload_n 1, 1) := by decide +kernel
theorem dX8_joins_52 : decode cX8_joins 52 = .ok (.lshl, 1) := by decide +kernel
theorem dX8_joins_53 : decode cX8_joins 53 = .ok (.lxor, 1) := by decide +kernel
theorem dX8_joins_54 : decode cX8_joins 54 = .ok (.lastore, 1) := by decide +kernel
theorem dX8_joins_55 : decode cX8_joins 55 = .ok (.aload_n 0, 1) := by decide +kernel
theorem dX8_joins_56 : decode cX8_joins 56 = .ok (.getfield 36, 3) := by decide +kernel
theorem dX8_joins_59 : decode cX8_joins 59 = .ok (.aload_n 0, 1) := by decide +kernel
theorem dX8_joins_60 : decode cX8_joins 60 = .ok (.getfield 64, 3) := by decide +kernel
theorem dX8_joins_63 : decode cX8_joins 63 = .ok (.iload_n 1, 1) := by decide +kernel
theorem dX8_joins_64 : decode cX8_joins 64 = .ok (.iastore, 1) := by decide +kernel
theorem dX8_joins_65 : decode cX8_joins 65 = .ok (.aload_n 0, 1) := by decide +kernel
theorem dX8_joins_66 : decode cX8_joins 66 = .ok (.dup, 1) := by decide +kernel
theorem dX8_joins_67 : decode cX8_joins 67 = .ok (.getfield 64, 3) := by decide +kernel
theorem dX8_joins_70 : decode cX8_joins 70 = .ok (.iconst 1, 1) := by decide +kernel
theorem dX8_joins_71 : decode cX8_joins 71 = .ok (.iadd, 1) := by decide +kernel
theorem dX8_joins_72 : decode cX8_joins 72 = .ok (.putfield 64, 3) := by decide +kernel
theorem dX8_joins_75 : decode cX8_joins 75 = .ok (.iconst 0, 1) := by decide +kernel
theorem dX8_joins_76 : decode cX8_joins 76 = .ok (.ireturn, 1) := by decide +kernel
theorem dX8_joins_77 : decode cX8_joins 77 = .ok (.aload_n 0, 1) := by decide +kernel
theorem dX8_joins_78 : decode cX8_joins 78 = .ok (.getfield 27, 3) := by decide +kernel
theorem dX8_joins_81 : decode cX8_joins 81 = .ok (.iload_n 3, 1) := by decide +kernel
theorem dX8_joins_82 : decode cX8_joins 82 = .ok (.iaload, 1) := by decide +kernel
theorem dX8_joins_83 : decode cX8_joins 83 = .ok (.istore 4, 2) := by decide +kernel
theorem dX8_joins_85 : decode cX8_joins 85 = .ok (.aload_n 0, 1) := by decide +kernel
theorem dX8_joins_86 : decode cX8_joins 86 = .ok (.getfield 30, 3) := by decide +kernel
theorem dX8_joins_89 : decode cX8_joins 89 = .ok (.iload_n 2, 1) := by decide +kernel
theorem dX8_joins_90 : decode cX8_joins 90 = .ok (.laload, 1) := by decide +kernel
theorem dX8_joins_91 : decode cX8_joins 91 = .ok (.aload_n 0, 1) := by decide +kernel
theorem dX8_joins_92 : decode cX8_joins 92 = .ok (.getfield 30, 3) := by decide +kernel
theorem dX8_joins_95 : decode cX8_joins 95 = .ok (.iload_n 3, 1) := by decide +kernel
theorem dX8_joins_96 : decode cX8_joins 96 = .ok (.laload, 1) := by decide +kernel
theorem dX8_joins_97 : decode cX8_joins 97 = .ok (.lxor, 1) := by decide +kernel
theorem dX8_joins_98 : decode cX8_joins 98 = .ok (.lconst 1, 1) := by decide +kernel
theorem dX8_joins_99 : decode cX8_joins 99 = .ok (.iload_n 1, 1) := by decide +kernel
theorem dX8_joins_100 : decode cX8_joins 100 = .ok (.lshl, 1) := by decide +kernel
theorem dX8_joins_101 : decode cX8_joins 101 = .ok (.lxor, 1) := by decide +kernel
theorem dX8_joins_102 : decode cX8_joins 102 = .ok (.lstore 5, 2) := by decide +kernel
theorem dX8_joins_104 : decode cX8_joins 104 = .ok (.iconst 0, 1) := by decide +kernel
theorem dX8_joins_105 : decode cX8_joins 105 = .ok (.istore 7, 2) := by decide +kernel
theorem dX8_joins_107 : decode cX8_joins 107 = .ok (.iload 7, 2) := by decide +kernel
theorem dX8_joins_109 : decode cX8_joins 109 = .ok (.aload_n 0, 1) := by decide +kernel
theorem dX8_joins_110 : decode cX8_joins 110 = .ok (.getfield 7, 3) := by decide +kernel
theorem dX8_joins_113 : decode cX8_joins 113 = .ok (.if_icmp .ge 49, 3) := by decide +kernel
theorem dX8_joins_116 : decode cX8_joins 116 = .ok (.aload_n 0, 1) := by decide +kernel
theorem dX8_joins_117 : decode cX8_joins 117 = .ok (.getfield 27, 3) := by decide +kernel
theorem dX8_joins_120 : decode cX8_joins 120 = .ok (.iload 7, 2) := by decide +kernel
theorem dX8_joins_122 : decode cX8_joins 122 = .ok (.iaload, 1) := by decide +kernel
theorem dX8_joins_123 : decode cX8_joins 123 = .ok (.iload 4, 2) := by decide +kernel
theorem dX8_joins_125 : decode cX8_joins 125 = .ok (.if_icmp .eq 6, 3) := by decide +kernel
theorem dX8_joins_128 : decode cX8_joins 128 = .ok (.goto 28, 3) := by decide +kernel
theorem dX8_joins_131 : decode cX8_joins 131 = .ok (.aload_n 0, 1) := by decide +kernel
theorem dX8_joins_132 : decode cX8_joins 132 = .ok (.getfield 27, 3) := by decide +kernel
theorem dX8_joins_135 : decode cX8_joins 135 = .ok (.iload 7, 2) := by decide +kernel
theorem dX8_joins_137 : decode cX8_joins 137 = .ok (.aload_n 0, 1) := by decide +kernel
theorem dX8_joins_138 : decode cX8_joins 138 = .ok (.getfield 27, 3) := by decide +kernel
theorem dX8_joins_141 : decode cX8_joins 141 = .ok (.iload_n 2, 1) := by decide +kernel
theorem dX8_joins_142 : decode cX8_joins 142 = .ok (.iaload, 1) := by decide +kernel
theorem dX8_joins_143 : decode cX8_joins 143 = .ok (.iastore, 1) := by decide +kernel
theorem dX8_joins_144 : decode cX8_joins 144 = .ok (.aload_n 0, 1) := by decide +kernel
theorem dX8_joins_145 : decode cX8_joins 145 = .ok (.getfield 30, 3) := by decide +kernel
theorem dX8_joins_148 : decode cX8_joins 148 = .ok (.iload 7, 2) := by decide +kernel
theorem dX8_joins_150 : decode cX8_joins 150 = .ok (.dup2, 1) := by decide +kernel
theorem dX8_joins_151 : decode cX8_joins 151 = .ok (.laload, 1) := by decide +kernel
theorem dX8_joins_152 : decode cX8_joins 152 = .ok (.lload 5, 2) := by decide +kernel
theorem dX8_joins_154 : decode cX8_joins 154 = .ok (.lxor, 1) := by decide +kernel
theorem dX8_joins_155 : decode cX8_joins 155 = .ok (.lastore, 1) := by decide +kernel
theorem dX8_joins_156 : decode cX8_joins 156 = .ok (.iinc 7 1, 3) := by decide +kernel
theorem dX8_joins_159 : decode cX8_joins 159 = .ok (.goto (-52), 3) := by decide +kernel
theorem dX8_joins_162 : decode cX8_joins 162 = .ok (.iconst 1, 1) := by decide +kernel
theorem dX8_joins_163 : decode cX8_joins 163 = .ok (.ireturn, 1) := by decide +kernel
set_option maxRecDepth 20000 in
theorem ggX8_groups_X8_beginGroups : GoodIn wsX8_groups wsX8_beginGroups := goodIn_r _ [7, 8, 9, 10, 19, 20, 21, 22, 23, 24, 25, 26, 27, 28, 29, 30, 31, 32, 33, 34, 35, 36, 37, 38] (by decide +kernel) (by decide +kernel)
set_option maxRecDepth 20000 in
theorem gX8_groups_X8_beginGroups : GoodIn wsX8_groups (wsV RX8 67 RX8 yX8_beginGroups wsX8_beginGroups) := goodIn_app (goodIn_of _ (by decide +kernel)) ggX8_groups_X8_beginGroups
set_option maxRecDepth 20000 in
theorem ggX8_groups_X8_joins : GoodIn wsX8_groups wsX8_joins := goodIn_r _ [14, 15, 16, 9, 17, 8, 10, 18, 1, 19, 20, 21, 22, 23, 24, 25, 26, 27, 28, 29, 30, 31, 32, 33, 34, 35, 36, 37, 38] (by decide +kernel) (by decide +kernel)
set_option maxRecDepth 20000 in
theorem gX8_groups_X8_joins : GoodIn wsX8_groups (wsV RX8 70 RX8 yX8_joins wsX8_joins) := goodIn_app (goodIn_of _ (by decide +kernel)) ggX8_groups_X8_joins
theorem dX8_groups_0 : decode cX8_groups 0 = .ok (.aload_n 0, 1) := by decide +kernel
theorem dX8_groups_1 : decode cX8_groups 1 = .ok (.invokevirtual 67, 3) := by decide +kernel
theorem dX8_groups_4 : decode cX8_groups 4 = .ok (.aload_n 0, 1) := by decide +kernel
theorem dX8_groups_5 : decode cX8_groups 5 = .ok (.getfield 7, 3) := by decide +kernel
theorem dX8_groups_8 : decode cX8_groups 8 = .ok (.istore_n 1, 1) := by decide +kernel
theorem dX8_groups_9 : decode cX8_groups 9 = .ok (.iconst 0, 1) := by decide +kernel
theorem dX8_groups_10 : decode cX8_groups 10 = .ok (.istore_n 2, 1) := by decide +kernel
theorem dX8_groups_11 : decode cX8_groups 11 = .ok (.iload_n 2, 1) := by decide +kernel
theorem dX8_groups_12 : decode cX8_groups 12 = .ok (.aload_n 0, 1) := by decide +kernel
theorem dX8_groups_13 : decode cX8_groups 13 = .ok (.getfield 61, 3) := by decide +kernel
theorem dX8_groups_16 : decode cX8_groups 16 = .ok (.if_icmp .ge 25, 3) := by decide +kernel
theorem dX8_groups_19 : decode cX8_groups 19 = .ok (.iload_n 1, 1) := by decide +kernel
theorem dX8_groups_20 : decode cX8_groups 20 = .ok (.aload_n 0, 1) := by decide +kernel
theorem dX8_groups_21 : decode cX8_groups 21 = .ok (.iload_n 2, 1) := by decide +kernel
theorem dX8_groups_22 : decode cX8_groups 22 = .ok (.invokevirtual 70, 3) := by decide +kernel
theorem dX8_groups_25 : decode cX8_groups 25 = .ok (.ifCond .eq 7, 3) := by decide +kernel
theorem dX8_groups_28 : decode cX8_groups 28 = .ok (.iconst 1, 1) := by decide +kernel
theorem dX8_groups_29 : decode cX8_groups 29 = .ok (.goto 4, 3) := by decide +kernel
theorem dX8_groups_32 : decode cX8_groups 32 = .ok (.iconst 0, 1) := by decide +kernel
theorem dX8_groups_33 : decode cX8_groups 33 = .ok (.isub, 1) := by decide +kernel
theorem dX8_groups_34 : decode cX8_groups 34 = .ok (.istore_n 1, 1) := by decide +kernel
theorem dX8_groups_35 : decode cX8_groups 35 = .ok (.iinc 2 1, 3) := by decide +kernel
theorem dX8_groups_38 : decode cX8_groups 38 = .ok (.goto (-27), 3) := by decide +kernel
theorem dX8_groups_41 : decode cX8_groups 41 = .ok (.iload_n 1, 1) := by decide +kernel
theorem dX8_groups_42 : decode cX8_groups 42 = .ok (.ireturn, 1) := by decide +kernel
set_option maxRecDepth 20000 in
theorem ggX8_dimension_X8_groups : GoodIn wsX8_dimension wsX8_groups := goodIn_r _ [7, 2, 1, 8, 9, 10, 6, 11, 12, 13, 14, 15, 16, 17, 18, 19, 20, 21, 22, 23, 24, 25, 26, 27, 28, 29, 30, 31, 32, 33, 34, 35, 36, 37, 38, 39, 40, 41, 42] (by decide +kernel) (by decide +kernel)
set_option maxRecDepth 20000 in
theorem gX8_dimension_X8_groups : GoodIn wsX8_dimension (wsV RX8 74 RX8 yX8_groups wsX8_groups) := goodIn_app (goodIn_of _ (by decide +kernel)) ggX8_dimension_X8_groups
theorem dX8_dimension_0 : decode cX8_dimension 0 = .ok (.aload_n 0, 1) := by decide +kernel
theorem dX8_dimension_1 : decode cX8_dimension 1 = .ok (.getfield 61, 3) := by decide +kernel
theorem dX8_dimension_4 : decode cX8_dimension 4 = .ok (.aload_n 0, 1) := by decide +kernel
theorem dX8_dimension_5 : decode cX8_dimension 5 = .ok (.getfield 7, 3) := by decide +kernel
theorem dX8_dimension_8 : decode cX8_dimension 8 = .ok (.isub, 1) := by decide +kernel
theorem dX8_dimension_9 : decode cX8_dimension 9 = .ok (.aload_n 0, 1) := by decide +kernel
theorem dX8_dimension_10 : decode cX8_dimension 10 = .ok (.invokevirtual 74, 3) := by decide +kernel
theorem dX8_dimension_13 : decode cX8_dimension 13 = .ok (.iadd, 1) := by decide +kernel
theorem dX8_dimension_14 : decode cX8_dimension 14 = .ok (.ireturn, 1) := by decide +kernel
set_option maxRecDepth 20000 in
theorem ggX8_reset_X8_throwing : GoodIn wsX8_reset wsX8_throwing := goodIn_r _ [7, 8, 9, 10, 11, 12, 13, 14, 15, 16, 17, 18, 19, 20, 21, 22, 23, 24, 25, 26, 27, 28] (by decide +kernel) (by decide +kernel)
set_option maxRecDepth 20000 in
theorem gX8_reset_X8_throwing : GoodIn wsX8_reset (wsV RX8 78 RX8 yX8_throwing wsX8_throwing) := goodIn_app (goodIn_of _ (by decide +kernel)) ggX8_reset_X8_throwing
theorem dX8_reset_0 : decode cX8_reset 0 = .ok (.aload_n 0, 1) := by decide +kernel
theorem dX8_reset_1 : decode cX8_reset 1 = .ok (.iload_n 1, 1) := by decide +kernel
theorem dX8_reset_2 : decode cX8_reset 2 = .ok (.iconst 1, 1) := by decide +kernel
theorem dX8_reset_3 : decode cX8_reset 3 = .ok (.if_icmp .lt 9, 3) := by decide +kernel
theorem dX8_reset_6 : decode cX8_reset 6 = .ok (.iload_n 1, 1) := by decide +kernel
theorem dX8_reset_7 : decode cX8_reset 7 = .ok (.bipush 16, 2) := by decide +kernel
theorem dX8_reset_9 : decode cX8_reset 9 = .ok (.if_icmp .le 7, 3) := by decide +kernel
theorem dX8_reset_12 : decode cX8_reset 12 = .ok (.iconst 1, 1) := by decide +kernel
theorem dX8_reset_13 : decode cX8_reset 13 = .ok (.goto 4, 3) := by decide +kernel
theorem dX8_reset_16 : decode cX8_reset 16 = .ok (.iconst 0, 1) := by decide +kernel
theorem dX8_reset_17 : decode cX8_reset 17 = .ok (.iconst 0, 1) := by decide +kernel
theorem dX8_reset_18 : decode cX8_reset 18 = .ok (.invokevirtual 78, 3) := by decide +kernel
theorem dX8_reset_21 : decode cX8_reset 21 = .ok (.ifCond .eq 5, 3) := by decide +kernel
theorem dX8_reset_24 : decode cX8_reset 24 = .ok (.iconst 0, 1) := by decide +kernel
theorem dX8_reset_25 : decode cX8_reset 25 = .ok (.ireturn, 1) := by decide +kernel
theorem dX8_reset_26 : decode cX8_reset 26 = .ok (.aload_n 0, 1) := by decide +kernel
theorem dX8_reset_27 : decode cX8_reset 27 = .ok (.getfield 61, 3) := by decide +kernel
theorem dX8_reset_30 : decode cX8_reset 30 = .ok (.istore_n 2, 1) := by decide +kernel
theorem dX8_reset_31 : decode cX8_reset 31 = .ok (.aload_n 0, 1) := by decide +kernel
theorem dX8_reset_32 : decode cX8_reset 32 = .ok (.iload_n 1, 1) := by decide +kernel
theorem dX8_reset_33 : decode cX8_reset 33 = .ok (.putfield 7, 3) := by decide +kernel
theorem dX8_reset_36 : decode cX8_reset 36 = .ok (.aload_n 0, 1) := by decide +kernel
theorem dX8_reset_37 : decode cX8_reset 37 = .ok (.iconst 0, 1) := by decide +kernel
theorem dX8_reset_38 : decode cX8_reset 38 = .ok (.putfield 61, 3) := by decide +kernel
theorem dX8_reset_41 : decode cX8_reset 41 = .ok (.iload_n 2, 1) := by decide +kernel
theorem dX8_reset_42 : decode cX8_reset 42 = .ok (.ireturn, 1) := by decide +kernel
set_option maxRecDepth 20000 in
theorem ggX8_edge_X8_isVertex : GoodIn wsX8_edge wsX8_isVertex := goodIn_r _ [11, 12, 38, 39, 40, 41, 42, 43, 44, 45, 46, 47, 48, 49, 50, 51, 52, 53, 54, 55, 56, 57] (by decide +kernel) (by decide +kernel)
set_option maxRecDepth 20000 in
theorem gX8_edge_X8_isVertex : GoodIn wsX8_edge (wsV RX8 82 RX8 yX8_isVertex wsX8_isVertex) := goodIn_app (goodIn_of _ (by decide +kernel)) ggX8_edge_X8_isVertex
set_option maxRecDepth 20000 in
theorem ggX8_edge_X8_dimension : GoodIn wsX8_edge wsX8_dimension := goodIn_r _ [16, 2, 12, 17, 18, 19, 10, 20, 21, 22, 23, 24, 25, 3, 26, 27, 28, 29, 30, 4, 5, 31, 32, 38, 39, 40, 41, 42, 43, 44, 45, 46, 47, 48, 49, 50, 51, 52, 53, 54, 55, 56, 57] (by decide +kernel) (by decide +kernel)
set_option maxRecDepth 20000 in
theorem gX8_edge_X8_dimension : GoodIn wsX8_edge (wsV RX8 86 RX8 yX8_dimension wsX8_dimension) := goodIn_app (goodIn_of _ (by decide +kernel)) ggX8_edge_X8_dimension
set_option maxRecDepth 20000 in
theorem ggX8_edge_X8_throwing : GoodIn wsX8_edge wsX8_throwing := goodIn_r _ [36, 37, 38, 39, 40, 41, 42, 43, 44, 45, 46, 47, 48, 49, 50, 51, 52, 53, 54, 55, 56, 57] (by decide +kernel) (by decide +kernel)
set_option maxRecDepth 20000 in
theorem gX8_edge_X8_throwing : GoodIn wsX8_edge (wsV RX8 78 RX8 yX8_throwing wsX8_throwing) := goodIn_app (goodIn_of _ (by decide +kernel)) ggX8_edge_X8_throwing
theorem dX8_edge_0 : decode cX8_edge 0 = .ok (.aload_n 0, 1) := by decide +kernel
theorem dX8_edge_1 : decode cX8_edge 1 = .ok (.iload_n 1, 1) := by decide +kernel
theorem dX8_edge_2 : decode cX8_edge 2 = .ok (.invokevirtual 82, 3) := by decide +kernel
theorem dX8_edge_5 : decode cX8_edge 5 = .ok (.ifCond .eq 21, 3) := by decide +kernel
theorem dX8_edge_8 : decode cX8_edge 8 = .ok (.aload_n 0, 1) := by decide +kernel
theorem dX8_edge_9 : decode cX8_edge 9 = .ok (.iload_n 2, 1) := by decide +kernel
theorem dX8_edge_10 : decode cX8_edge 10 = .ok (.invokevirtual 82, 3) := by decide +kernel
theorem dX8_edge_13 : decode cX8_edge 13 = .ok (.ifCond .eq 13, 3) := by decide +kernel
theorem dX8_edge_16 : decode cX8_edge 16 = .ok (.iload_n 3, 1) := by decide +kernel
theorem dX8_edge_17 : decode cX8_edge 17 = .ok (.ifCond .lt 9, 3) := by decide +kernel
theorem dX8_edge_20 : decode cX8_edge 20 = .ok (.iload_n 3, 1) := by decide +kernel
theorem dX8_edge_21 : decode cX8_edge 21 = .ok (.ldc 85, 2) := by decide +kernel
theorem dX8_edge_23 : decode cX8_edge 23 = .ok (.if_icmp .le 7, 3) := by decide +kernel
theorem dX8_edge_26 : decode cX8_edge 26 = .ok (.iconst 1, 1) := by decide +kernel
theorem dX8_edge_27 : decode cX8_edge 27 = .ok (.goto 4, 3) := by decide +kernel
theorem dX8_edge_30 : decode cX8_edge 30 = .ok (.iconst 0, 1) := by decide +kernel
theorem dX8_edge_31 : decode cX8_edge 31 = .ok (.istore 4, 2) := by decide +kernel
theorem dX8_edge_33 : decode cX8_edge 33 = .ok (.iconst 0, 1) := by decide +kernel
theorem dX8_edge_34 : decode cX8_edge 34 = .ok (.istore 5, 2) := by decide +kernel
theorem dX8_edge_36 : decode cX8_edge 36 = .ok (.iload 4, 2) := by decide +kernel
theorem dX8_edge_38 : decode cX8_edge 38 = .ok (.ifCond .ne 47, 3) := by decide +kernel
theorem dX8_edge_41 : decode cX8_edge 41 = .ok (.aload_n 0, 1) := by decide +kernel
theorem dX8_edge_42 : decode cX8_edge 42 = .ok (.invokevirtual 86, 3) := by decide +kernel
theorem dX8_edge_45 : decode cX8_edge 45 = .ok (.istore 6, 2) := by decide +kernel
theorem dX8_edge_47 : decode cX8_edge 47 = .ok (.aload_n 0, 1) := by decide +kernel
theorem dX8_edge_48 : decode cX8_edge 48 = .ok (.getfield 61, 3) := by decide +kernel
theorem dX8_edge_51 : decode cX8_edge 51 = .ok (.bipush 40, 2) := by decide +kernel
theorem dX8_edge_53 : decode cX8_edge 53 = .ok (.if_icmp .eq 25, 3) := by decide +kernel
theorem dX8_edge_56 : decode cX8_edge 56 = .ok (.iload 6, 2) := by decide +kernel
theorem dX8_edge_58 : decode cX8_edge 58 = .ok (.bipush 14, 2) := by decide +kernel
theorem dX8_edge_60 : decode cX8_edge 60 = .ok (.if_icmp .ne 22, 3) := by decide +kernel
theorem dX8_edge_63 : decode cX8_edge 63 = .ok (.aload_n 0, 1) := by decide +kernel
theorem dX8_edge_64 : decode cX8_edge 64 = .ok (.getfield 27, 3) := by decide +kernel
theorem dX8_edge_67 : decode cX8_edge 67 = .ok (.iload_n 1, 1) := by decide +kernel
theorem dX8_edge_68 : decode cX8_edge 68 = .ok (.iaload, 1) := by decide +kernel
theorem dX8_edge_69 : decode cX8_edge 69 = .ok (.aload_n 0, 1) := by decide +kernel
theorem dX8_edge_70 : decode cX8_edge 70 = .ok (.getfield 27, 3) := by decide +kernel
theorem dX8_edge_73 : decode cX8_edge 73 = .ok (.iload_n 2, 1) := by decide +kernel
theorem dX8_edge_74 : decode cX8_edge 74 = .ok (.iaload, 1) := by decide +kernel
theorem dX8_edge_75 : decode cX8_edge 75 = .ok (.if_icmp .ne 7, 3) := by decide +kernel
theorem dX8_edge_78 : decode cX8_edge 78 = .ok (.iconst 1, 1) := by decide +kernel
theorem dX8_edge_79 : decode cX8_edge 79 = .ok (.goto 4, 3) := by decide +kernel
theorem dX8_edge_82 : decode cX8_edge 82 = .ok (.iconst 0, 1) := by decide +kernel
theorem dX8_edge_83 : decode cX8_edge 83 = .ok (.istore 5, 2) := by decide +kernel
theorem dX8_edge_85 : decode cX8_edge 85 = .ok (.aload_n 0, 1) := by decide +kernel
theorem dX8_edge_86 : decode cX8_edge 86 = .ok (.iload 4, 2) := by decide +kernel
theorem dX8_edge_88 : decode cX8_edge 88 = .ok (.iload 5, 2) := by decide +kernel
theorem dX8_edge_90 : decode cX8_edge 90 = .ok (.invokevirtual 78, 3) := by decide +kernel
theorem dX8_edge_93 : decode cX8_edge 93 = .ok (.ifCond .eq 5, 3) := by decide +kernel
theorem dX8_edge_96 : decode cX8_edge 96 = .ok (.iconst 0, 1) := by decide +kernel
theorem dX8_edge_97 : decode cX8_edge 97 = .ok (.ireturn, 1) := by decide +kernel
theorem dX8_edge_98 : decode cX8_edge 98 = .ok (.aload_n 0, 1) := by decide +kernel
theorem dX8_edge_99 : decode cX8_edge 99 = .ok (.getfield 13, 3) := by decide +kernel
theorem dX8_edge_102 : decode cX8_edge 102 = .ok (.aload_n 0, 1) := by decide +kernel
theorem dX8_edge_103 : decode cX8_edge 103 = .ok (.getfield 61, 3) := by decide +kernel
theorem dX8_edge_106 : decode cX8_edge 106 = .ok (.iload_n 1, 1) := by decide +kernel
theorem dX8_edge_107 : decode cX8_edge 107 = .ok (.iastore, 1) := by decide +kernel
theorem dX8_edge_108 : decode cX8_edge 108 = .ok (.aload_n 0, 1) := by decide +kernel
theorem dX8_edge_109 : decode cX8_edge 109 = .ok (.getfield 17, 3) := by decide +kernel
theorem dX8_edge_112 : decode cX8_edge 112 = .ok (.aload_n 0, 1) := by decide +kernel
theorem dX8_edge_113 : decode cX8_edge 113 = .ok (.getfield 61, 3) := by decide +kernel
theorem dX8_edge_116 : decode cX8_edge 116 = .ok (.iload_n 2, 1) := by decide +kernel
theorem dX8_edge_117 : decode cX8_edge 117 = .ok (.iastore, 1) := by decide +kernel
theorem dX8_edge_118 : decode cX8_edge 118 = .ok (.aload_n 0, 1) := by decide +kernel
theorem dX8_edge_119 : decode cX8_edge 119 = .ok (.getfield 20, 3) := by decide +kernel
theorem dX8_edge_122 : decode cX8_edge 122 = .ok (.aload_n 0, 1) := by decide +kernel
theorem dX8_edge_123 : decode cX8_edge 123 = .ok (.getfield 61, 3) := by decide +kernel
theorem dX8_edge_126 : decode cX8_edge 126 = .ok (.iload_n 3, 1) := by decide +kernel
theorem dX8_edge_127 : decode cX8_edge 127 = .ok (.iastore, 1) := by decide +kernel
theorem dX8_edge_128 : decode cX8_edge 128 = .ok (.aload_n 0, 1) := by decide +kernel
theorem dX8_edge_129 : decode cX8_edge 129 = .ok (.dup, 1) := by decide +kernel
theorem dX8_edge_130 : decode cX8_edge 130 = .ok (.getfield 61, 3) := by decide +kernel
theorem dX8_edge_133 : decode cX8_edge 133 = .ok (.iconst 1, 1) := by decide +kernel
theorem dX8_edge_134 : decode cX8_edge 134 = .ok (.iadd, 1) := by decide +kernel
theorem dX8_edge_135 : decode cX8_edge 135 = .ok (.putfield 61, 3) := by decide +kernel
theorem dX8_edge_138 : decode cX8_edge 138 = .ok (.aload_n 0, 1) := by decide +kernel
theorem dX8_edge_139 : decode cX8_edge 139 = .ok (.getfield 61, 3) := by decide +kernel
theorem dX8_edge_142 : decode cX8_edge 142 = .ok (.iconst 1, 1) := by decide +kernel
theorem dX8_edge_143 : decode cX8_edge 143 = .ok (.isub, 1) := by decide +kernel
theorem dX8_edge_144 : decode cX8_edge 144 = .ok (.ireturn, 1) := by decide +kernel
set_option maxRecDepth 20000 in
theorem ggX8_drop_X8_throwing : GoodIn wsX8_drop wsX8_throwing := goodIn_r _ [6, 7, 8, 9, 10, 11, 12, 13, 14, 15, 16, 17, 18, 19, 20, 21, 22, 23, 24, 25, 26, 27] (by decide +kernel) (by decide +kernel)
set_option maxRecDepth 20000 in
theorem gX8_drop_X8_throwing : GoodIn wsX8_drop (wsV RX8 78 RX8 yX8_throwing wsX8_throwing) := goodIn_app (goodIn_of _ (by decide +kernel)) ggX8_drop_X8_throwing
theorem dX8_drop_0 : decode cX8_drop 0 = .ok (.aload_n 0, 1) := by decide +kernel
theorem dX8_drop_1 : decode cX8_drop 1 = .ok (.aload_n 0, 1) := by decide +kernel
theorem dX8_drop_2 : decode cX8_drop 2 = .ok (.getfield 61, 3) := by decide +kernel
theorem dX8_drop_5 : decode cX8_drop 5 = .ok (.ifCond .ne 7, 3) := by decide +kernel
theorem dX8_drop_8 : decode cX8_drop 8 = .ok (.iconst 1, 1) := by decide +kernel
theorem dX8_drop_9 : decode cX8_drop 9 = .ok (.goto 4, 3) := by decide +kernel
theorem dX8_drop_12 : decode cX8_drop 12 = .ok (.iconst 0, 1) := by decide +kernel
theorem dX8_drop_13 : decode cX8_drop 13 = .ok (.iconst 0, 1) := by decide +kernel
theorem dX8_drop_14 : decode cX8_drop 14 = .ok (.invokevirtual 78, 3) := by decide +kernel
theorem dX8_drop_17 : decode cX8_drop 17 = .ok (.ifCond .eq 5, 3) := by decide +kernel
theorem dX8_drop_20 : decode cX8_drop 20 = .ok (.iconst 0, 1) := by decide +kernel
theorem dX8_drop_21 : decode cX8_drop 21 = .ok (.ireturn, 1) := by decide +kernel
theorem dX8_drop_22 : decode cX8_drop 22 = .ok (.aload_n 0, 1) := by decide +kernel
theorem dX8_drop_23 : decode cX8_drop 23 = .ok (.dup, 1) := by decide +kernel
theorem dX8_drop_24 : decode cX8_drop 24 = .ok (.getfield 61, 3) := by decide +kernel
theorem dX8_drop_27 : decode cX8_drop 27 = .ok (.iconst 1, 1) := by decide +kernel
theorem dX8_drop_28 : decode cX8_drop 28 = .ok (.isub, 1) := by decide +kernel
theorem dX8_drop_29 : decode cX8_drop 29 = .ok (.putfield 61, 3) := by decide +kernel
theorem dX8_drop_32 : decode cX8_drop 32 = .ok (.aload_n 0, 1) := by decide +kernel
theorem dX8_drop_33 : decode cX8_drop 33 = .ok (.getfield 61, 3) := by decide +kernel
theorem dX8_drop_36 : decode cX8_drop 36 = .ok (.ireturn, 1) := by decide +kernel
theorem dX8_weightOf_0 : decode cX8_weightOf 0 = .ok (.lconst 0, 1) := by decide +kernel
theorem dX8_weightOf_1 : decode cX8_weightOf 1 = .ok (.lstore_n 3, 1) := by decide +kernel
theorem dX8_weightOf_2 : decode cX8_weightOf 2 = .ok (.iconst 0, 1) := by decide +kernel
theorem dX8_weightOf_3 : decode cX8_weightOf 3 = .ok (.istore 5, 2) := by decide +kernel
theorem dX8_weightOf_5 : decode cX8_weightOf 5 = .ok (.iload 5, 2) := by decide +kernel
theorem dX8_weightOf_7 : decode cX8_weightOf 7 = .ok (.aload_n 0, 1) := by decide +kernel
theorem dX8_weightOf_8 : decode cX8_weightOf 8 = .ok (.getfield 61, 3) := by decide +kernel
theorem dX8_weightOf_11 : decode cX8_weightOf 11 = .ok (.if_icmp .ge 31, 3) := by decide +kernel
theorem dX8_weightOf_14 : decode cX8_weightOf 14 = .ok (.lload_n 1, 1) := by decide +kernel
theorem dX8_weightOf_15 : decode cX8_weightOf 15 = .ok (.iload 5, 2) := by decide +kernel
theorem dX8_weightOf_17 : decode cX8_weightOf 17 = .ok (.lshr, 1) := by decide +kernel
theorem dX8_weightOf_18 : decode cX8_weightOf 18 = .ok (.lconst 1, 1) := by decide +kernel
theorem dX8_weightOf_19 : decode cX8_weightOf 19 = .ok (.land, 1) := by decide +kernel
theorem dX8_weightOf_20 : decode cX8_weightOf 20 = .ok (.lconst 1, 1) := by decide +kernel
theorem dX8_weightOf_21 : decode cX8_weightOf 21 = .ok (.lcmp, 1) := by decide +kernel
theorem dX8_weightOf_22 : decode cX8_weightOf 22 = .ok (.ifCond .ne 14, 3) := by decide +kernel
theorem dX8_weightOf_25 : decode cX8_weightOf 25 = .ok (.lload_n 3, 1) := by decide +kernel
theorem dX8_weightOf_26 : decode cX8_weightOf 26 = .ok (.aload_n 0, 1) := by decide +kernel
theorem dX8_weightOf_27 : decode cX8_weightOf 27 = .ok (.getfield 20, 3) := by decide +kernel
theorem dX8_weightOf_30 : decode cX8_weightOf 30 = .ok (.iload 5, 2) := by decide +kernel
theorem dX8_weightOf_32 : decode cX8_weightOf 32 = .ok (.iaload, 1) := by decide +kernel
theorem dX8_weightOf_33 : decode cX8_weightOf 33 = .ok (.i2l, 1) := by decide +kernel
theorem dX8_weightOf_34 : decode cX8_weightOf 34 = .ok (.ladd, 1) := by decide +kernel
theorem dX8_weightOf_35 : decode cX8_weightOf 35 = .ok (.lstore_n 3, 1) := by decide +kernel
theorem dX8_weightOf_36 : decode cX8_weightOf 36 = .ok (.iinc 5 1, 3) := by decide +kernel
theorem dX8_weightOf_39 : decode cX8_weightOf 39 = .ok (.goto (-34), 3) := by decide +kernel
theorem dX8_weightOf_42 : decode cX8_weightOf 42 = .ok (.lload_n 3, 1) := by decide +kernel
theorem dX8_weightOf_43 : decode cX8_weightOf 43 = .ok (.lreturn, 1) := by decide +kernel
set_option maxRecDepth 20000 in
theorem ggX8_beginsWith_X8_beginGroups : GoodIn wsX8_beginsWith wsX8_beginGroups := goodIn_r _ [6, 7, 8, 9, 19, 20, 21, 22, 23, 24, 25, 26, 27, 28, 29, 30, 31, 32, 33, 34, 35, 36, 37, 38] (by decide +kernel) (by decide +kernel)
set_option maxRecDepth 20000 in
theorem gX8_beginsWith_X8_beginGroups : GoodIn wsX8_beginsWith (wsV RX8 67 RX8 yX8_beginGroups wsX8_beginGroups) := goodIn_app (goodIn_of _ (by decide +kernel)) ggX8_beginsWith_X8_beginGroups
set_option maxRecDepth 20000 in
theorem ggX8_beginsWith_X8_joins : GoodIn wsX8_beginsWith wsX8_joins := goodIn_r _ [13, 14, 15, 8, 16, 7, 9, 17, 18, 19, 20, 21, 22, 23, 24, 25, 26, 27, 28, 29, 30, 31, 32, 33, 34, 35, 36, 37, 38] (by decide +kernel) (by decide +kernel)
set_option maxRecDepth 20000 in
theorem gX8_beginsWith_X8_joins : GoodIn wsX8_beginsWith (wsV RX8 70 RX8 yX8_joins wsX8_joins) := goodIn_app (goodIn_of _ (by decide +kernel)) ggX8_beginsWith_X8_joins
theorem dX8_beginsWith_0 : decode cX8_beginsWith 0 = .ok (.aload_n 0, 1) := by decide +kernel
theorem dX8_beginsWith_1 : decode cX8_beginsWith 1 = .ok (.invokevirtual 67, 3) := by decide +kernel
theorem dX8_beginsWith_4 : decode cX8_beginsWith 4 = .ok (.iconst 1, 1) := by decide +kernel
theorem dX8_beginsWith_5 : decode cX8_beginsWith 5 = .ok (.istore_n 3, 1) := by decide +kernel
theorem dX8_beginsWith_6 : decode cX8_beginsWith 6 = .ok (.iconst 0, 1) := by decide +kernel
theorem dX8_beginsWith_7 : decode cX8_beginsWith 7 = .ok (.istore 4, 2) := by decide +kernel
theorem dX8_beginsWith_9 : decode cX8_beginsWith 9 = .ok (.iload 4, 2) := by decide +kernel
theorem dX8_beginsWith_11 : decode cX8_beginsWith 11 = .ok (.aload_n 0, 1) := by decide +kernel
theorem dX8_beginsWith_12 : decode cX8_beginsWith 12 = .ok (.getfield 61, 3) := by decide +kernel
theorem dX8_beginsWith_15 : decode cX8_beginsWith 15 = .ok (.if_icmp .ge 39, 3) := by decide +kernel
theorem dX8_beginsWith_18 : decode cX8_beginsWith 18 = .ok (.lload_n 1, 1) := by decide +kernel
theorem dX8_beginsWith_19 : decode cX8_beginsWith 19 = .ok (.iload 4, 2) := by decide +kernel
theorem dX8_beginsWith_21 : decode cX8_beginsWith 21 = .ok (.lshr, 1) := by decide +kernel
theorem dX8_beginsWith_22 : decode cX8_beginsWith 22 = .ok (.lconst 1, 1) := by decide +kernel
theorem dX8_beginsWith_23 : decode cX8_beginsWith 23 = .ok (.land, 1) := by decide +kernel
theorem dX8_beginsWith_24 : decode cX8_beginsWith 24 = .ok (.lconst 1, 1) := by decide +kernel
theorem dX8_beginsWith_25 : decode cX8_beginsWith 25 = .ok (.lcmp, 1) := by decide +kernel
theorem dX8_beginsWith_26 : decode cX8_beginsWith 26 = .ok (.ifCond .ne 22, 3) := by decide +kernel
theorem dX8_beginsWith_29 : decode cX8_beginsWith 29 = .ok (.aload_n 0, 1) := by decide +kernel
theorem dX8_beginsWith_30 : decode cX8_beginsWith 30 = .ok (.iload 4, 2) := by decide +kernel
theorem dX8_beginsWith_32 : decode cX8_beginsWith 32 = .ok (.invokevirtual 70, 3) := by decide +kernel
theorem dX8_beginsWith_35 : decode cX8_beginsWith 35 = .ok (.ifCond .eq 11, 3) := by decide +kernel
theorem dX8_beginsWith_38 : decode cX8_beginsWith 38 = .ok (.iload_n 3, 1) := by decide +kernel
theorem dX8_beginsWith_39 : decode cX8_beginsWith 39 = .ok (.ifCond .eq 7, 3) := by decide +kernel
theorem dX8_beginsWith_42 : decode cX8_beginsWith 42 = .ok (.iconst 1, 1) := by decide +kernel
theorem dX8_beginsWith_43 : decode cX8_beginsWith 43 = .ok (.goto 4, 3) := by decide +kernel
theorem dX8_beginsWith_46 : decode cX8_beginsWith 46 = .ok (.iconst 0, 1) := by decide +kernel
theorem dX8_beginsWith_47 : decode cX8_beginsWith 47 = .ok (.istore_n 3, 1) := by decide +kernel
theorem dX8_beginsWith_48 : decode cX8_beginsWith 48 = .ok (.iinc 4 1, 3) := by decide +kernel
theorem dX8_beginsWith_51 : decode cX8_beginsWith 51 = .ok (.goto (-42), 3) := by decide +kernel
theorem dX8_beginsWith_54 : decode cX8_beginsWith 54 = .ok (.iload_n 3, 1) := by decide +kernel
theorem dX8_beginsWith_55 : decode cX8_beginsWith 55 = .ok (.ireturn, 1) := by decide +kernel
set_option maxRecDepth 20000 in
theorem ggX8_forests_X8_isSet : GoodIn wsX8_forests wsX8_isSet := goodIn_r _ [12, 5, 51, 52, 53, 54, 55, 56, 57, 58, 59, 60, 61, 62, 63, 64, 65, 66, 67, 68, 69, 70] (by decide +kernel) (by decide +kernel)
set_option maxRecDepth 20000 in
theorem gX8_forests_X8_isSet : GoodIn wsX8_forests (wsV RX8 89 RX8 yX8_isSet wsX8_isSet) := goodIn_app (goodIn_of _ (by decide +kernel)) ggX8_forests_X8_isSet
set_option maxRecDepth 20000 in
theorem ggX8_forests_X8_throwing : GoodIn wsX8_forests wsX8_throwing := goodIn_r _ [16, 17, 51, 52, 53, 54, 55, 56, 57, 58, 59, 60, 61, 62, 63, 64, 65, 66, 67, 68, 69, 70] (by decide +kernel) (by decide +kernel)
set_option maxRecDepth 20000 in
theorem gX8_forests_X8_throwing : GoodIn wsX8_forests (wsV RX8 78 RX8 yX8_throwing wsX8_throwing) := goodIn_app (goodIn_of _ (by decide +kernel)) ggX8_forests_X8_throwing
set_option maxRecDepth 20000 in
theorem ggX8_forests_X8_beginsWith : GoodIn wsX8_forests wsX8_beginsWith := goodIn_r _ [21, 5, 22, 23, 24, 11, 25, 26, 3, 27, 28, 29, 30, 31, 6, 7, 32, 33, 1, 51, 52, 53, 54, 55, 56, 57, 58, 59, 60, 61, 62, 63, 64, 65, 66, 67, 68, 69, 70] (by decide +kernel) (by decide +kernel)
set_option maxRecDepth 20000 in
theorem gX8_forests_X8_beginsWith : GoodIn wsX8_forests (wsV RX8 93 RX8 yX8_beginsWith wsX8_beginsWith) := goodIn_app (goodIn_of _ (by decide +kernel)) ggX8_forests_X8_beginsWith
set_option maxRecDepth 20000 in
theorem ggX8_forests_X8_isFirst : GoodIn wsX8_forests wsX8_isFirst := goodIn_r _ [37, 3, 38, 39, 40, 11, 41, 1, 42, 5, 6, 7, 51, 52, 53, 54, 55, 56, 57, 58, 59, 60, 61, 62, 63, 64, 65, 66, 67, 68, 69, 70] (by decide +kernel) (by decide +kernel)
set_option maxRecDepth 20000 in
theorem gX8_forests_X8_isFirst : GoodIn wsX8_forests (wsV RX8 96 RX8 yX8_isFirst wsX8_isFirst) := goodIn_app (goodIn_of _ (by decide +kernel)) ggX8_forests_X8_isFirst
set_option maxRecDepth 20000 in
theorem ggX8_forests_X8_lay : GoodIn wsX8_forests wsX8_lay := goodIn_r _ [46, 4, 51, 52, 53, 54, 55, 56, 57, 58, 59, 60, 61, 62, 63, 64, 65, 66, 67, 68, 69, 70] (by decide +kernel) (by decide +kernel)
set_option maxRecDepth 20000 in
theorem gX8_forests_X8_lay : GoodIn wsX8_forests (wsV RX8 99 RX8 yX8_lay wsX8_lay) := goodIn_app (goodIn_of _ (by decide +kernel)) ggX8_forests_X8_lay
set_option maxRecDepth 20000 in
theorem ggX8_forests_X8_determinant : GoodIn wsX8_forests wsX8_determinant := goodIn_r _ [50, 4, 51, 52, 53, 54, 55, 56, 57, 58, 59, 60, 61, 62, 63, 64, 65, 66, 67, 68, 69, 70] (by decide +kernel) (by decide +kernel)
set_option maxRecDepth 20000 in
theorem gX8_forests_X8_determinant : GoodIn wsX8_forests (wsV RX8 103 RX8 yX8_determinant wsX8_determinant) := goodIn_app (goodIn_of _ (by decide +kernel)) ggX8_forests_X8_determinant
theorem dX8_forests_0 : decode cX8_forests 0 = .ok (.aload_n 0, 1) := by decide +kernel
theorem dX8_forests_1 : decode cX8_forests 1 = .ok (.aload_n 0, 1) := by decide +kernel
theorem dX8_forests_2 : decode cX8_forests 2 = .ok (.lload_n 1, 1) := by decide +kernel
theorem dX8_forests_3 : decode cX8_forests 3 = .ok (.invokevirtual 89, 3) := by decide +kernel
theorem dX8_forests_6 : decode cX8_forests 6 = .ok (.ifCond .ne 7, 3) := by decide +kernel
theorem dX8_forests_9 : decode cX8_forests 9 = .ok (.iconst 1, 1) := by decide +kernel
theorem dX8_forests_10 : decode cX8_forests 10 = .ok (.goto 4, 3) := by decide +kernel
theorem dX8_forests_13 : decode cX8_forests 13 = .ok (.iconst 0, 1) := by decide +kernel
theorem dX8_forests_14 : decode cX8_forests 14 = .ok (.iconst 0, 1) := by decide +kernel
theorem dX8_forests_15 : decode cX8_forests 15 = .ok (.invokevirtual 78, 3) := by decide +kernel
theorem dX8_forests_18 : decode cX8_forests 18 = .ok (.ifCond .eq 5, 3) := by decide +kernel
theorem dX8_forests_21 : decode cX8_forests 21 = .ok (.lconst 0, 1) := by decide +kernel
theorem dX8_forests_22 : decode cX8_forests 22 = .ok (.lreturn, 1) := by decide +kernel
theorem dX8_forests_23 : decode cX8_forests 23 = .ok (.aload_n 0, 1) := by decide +kernel
theorem dX8_forests_24 : decode cX8_forests 24 = .ok (.lload_n 1, 1) := by decide +kernel
theorem dX8_forests_25 : decode cX8_forests 25 = .ok (.invokevirtual 93, 3) := by decide +kernel
theorem dX8_forests_28 : decode cX8_forests 28 = .ok (.ifCond .ne 5, 3) := by decide +kernel
theorem dX8_forests_31 : decode cX8_forests 31 = .ok (.lconst 0, 1) := by decide +kernel
theorem dX8_forests_32 : decode cX8_forests 32 = .ok (.lreturn, 1) := by decide +kernel
theorem dX8_forests_33 : decode cX8_forests 33 = .ok (.iconst 0, 1) := by decide +kernel
theorem dX8_forests_34 : decode cX8_forests 34 = .ok (.istore_n 3, 1) := by decide +kernel
theorem dX8_forests_35 : decode cX8_forests 35 = .ok (.iconst 0, 1) := by decide +kernel
theorem dX8_forests_36 : decode cX8_forests 36 = .ok (.istore 4, 2) := by decide +kernel
theorem dX8_forests_38 : decode cX8_forests 38 = .ok (.iload 4, 2) := by decide +kernel
theorem dX8_forests_40 : decode cX8_forests 40 = .ok (.aload_n 0, 1) := by decide +kernel
theorem dX8_forests_41 : decode cX8_forests 41 = .ok (.getfield 7, 3) := by decide +kernel
theorem dX8_forests_44 : decode cX8_forests 44 = .ok (.if_icmp .ge 70, 3) := by decide +kernel
theorem dX8_forests_47 : decode cX8_forests 47 = .ok (.aload_n 0, 1) := by decide +kernel
theorem dX8_forests_48 : decode cX8_forests 48 = .ok (.getfield 51, 3) := by decide +kernel
theorem dX8_forests_51 : decode cX8_forests 51 = .ok (.iload 4, 2) := by decide +kernel
theorem dX8_forests_53 : decode cX8_forests 53 = .ok (.iconst (-1), 1) := by decide +kernel
theorem dX8_forests_54 : decode cX8_forests 54 = .ok (.iastore, 1) := by decide +kernel
theorem dX8_forests_55 : decode cX8_forests 55 = .ok (.aload_n 0, 1) := by decide +kernel
theorem dX8_forests_56 : decode cX8_forests 56 = .ok (.getfield 27, 3) := by decide +kernel
theorem dX8_forests_59 : decode cX8_forests 59 = .ok (.iload 4, 2) := by decide +kernel
theorem dX8_forests_61 : decode cX8_forests 61 = .ok (.iaload, 1) := by decide +kernel
theorem dX8_forests_62 : decode cX8_forests 62 = .ok (.iload 4, 2) := by decide +kernel
theorem dX8_forests_64 : decode cX8_forests 64 = .ok (.if_icmp .eq 6, 3) := by decide +kernel
theorem dX8_forests_67 : decode cX8_forests 67 = .ok (.goto 41, 3) := by decide +kernel
theorem dX8_forests_70 : decode cX8_forests 70 = .ok (.aload_n 0, 1) := by decide +kernel
theorem dX8_forests_71 : decode cX8_forests 71 = .ok (.getfield 51, 3) := by decide +kernel
theorem dX8_forests_74 : decode cX8_forests 74 = .ok (.iload 4, 2) := by decide +kernel
theorem dX8_forests_76 : decode cX8_forests 76 = .ok (.aload_n 0, 1) := by decide +kernel
theorem dX8_forests_77 : decode cX8_forests 77 = .ok (.iload 4, 2) := by decide +kernel
theorem dX8_forests_79 : decode cX8_forests 79 = .ok (.invokevirtual 96, 3) := by decide +kernel
theorem dX8_forests_82 : decode cX8_forests 82 = .ok (.ifCond .eq 7, 3) := by decide +kernel
theorem dX8_forests_85 : decode cX8_forests 85 = .ok (.iconst (-1), 1) := by decide +kernel
theorem dX8_forests_86 : decode cX8_forests 86 = .ok (.goto 4, 3) := by decide +kernel
theorem dX8_forests_89 : decode cX8_forests 89 = .ok (.iload_n 3, 1) := by decide +kernel
theorem dX8_forests_90 : decode cX8_forests 90 = .ok (.iastore, 1) := by decide +kernel
theorem dX8_forests_91 : decode cX8_forests 91 = .ok (.iload_n 3, 1) := by decide +kernel
theorem dX8_forests_92 : decode cX8_forests 92 = .ok (.aload_n 0, 1) := by decide +kernel
theorem dX8_forests_93 : decode cX8_forests 93 = .ok (.iload 4, 2) := by decide +kernel
theorem dX8_forests_95 : decode cX8_forests 95 = .ok (.invokevirtual 96, 3) := by decide +kernel
theorem dX8_forests_98 : decode cX8_forests 98 = .ok (.ifCond .eq 7, 3) := by decide +kernel
theorem dX8_forests_101 : decode cX8_forests 101 = .ok (.iconst 0, 1) := by decide +kernel
theorem dX8_forests_102 : decode cX8_forests 102 = .ok (.goto 4, 3) := by decide +kernel
theorem dX8_forests_105 : decode cX8_forests 105 = .ok (.iconst 1, 1) := by decide +kernel
theorem dX8_forests_106 : decode cX8_forests 106 = .ok (.iadd, 1) := by decide +kernel
theorem dX8_forests_107 : decode cX8_forests 107 = .ok (.istore_n 3, 1) := by decide +kernel
theorem dX8_forests_108 : decode cX8_forests 108 = .ok (.iinc 4 1, 3) := by decide +kernel
theorem dX8_forests_111 : decode cX8_forests 111 = .ok (.goto (-73), 3) := by decide +kernel
theorem dX8_forests_114 : decode cX8_forests 114 = .ok (.iconst 0, 1) := by decide +kernel
theorem dX8_forests_115 : decode cX8_forests 115 = .ok (.istore 4, 2) := by decide +kernel
theorem dX8_forests_117 : decode cX8_forests 117 = .ok (.iload 4, 2) := by decide +kernel
theorem dX8_forests_119 : decode cX8_forests 119 = .ok (.sipush 256, 3) := by decide +kernel
theorem dX8_forests_122 : decode cX8_forests 122 = .ok (.if_icmp .ge 17, 3) := by decide +kernel
theorem dX8_forests_125 : decode cX8_forests 125 = .ok (.aload_n 0, 1) := by decide +kernel
theorem dX8_forests_126 : decode cX8_forests 126 = .ok (.getfield 48, 3) := by decide +kernel
theorem dX8_forests_129 : decode cX8_forests 129 = .ok (.iload 4, 2) := by decide +kernel
theorem dX8_forests_131 : decode cX8_forests 131 = .ok (.lconst 0, 1) := by decide +kernel
theorem dX8_forests_132 : decode cX8_forests 132 = .ok (.lastore, 1) := by decide +kernel
theorem dX8_forests_133 : decode cX8_forests 133 = .ok (.iinc 4 1, 3) := by decide +kernel
theorem dX8_forests_136 : decode cX8_forests 136 = .ok (.goto (-19), 3) := by decide +kernel
theorem dX8_forests_139 : decode cX8_forests 139 = .ok (.iconst 0, 1) := by decide +kernel
theorem dX8_forests_140 : decode cX8_forests 140 = .ok (.istore 4, 2) := by decide +kernel
theorem dX8_forests_142 : decode cX8_forests 142 = .ok (.iload 4, 2) := by decide +kernel
theorem dX8_forests_144 : decode cX8_forests 144 = .ok (.aload_n 0, 1) := by decide +kernel
theorem dX8_forests_145 : decode cX8_forests 145 = .ok (.getfield 61, 3) := by decide +kernel
theorem dX8_forests_148 : decode cX8_forests 148 = .ok (.if_icmp .ge 65, 3) := by decide +kernel
theorem dX8_forests_151 : decode cX8_forests 151 = .ok (.aload_n 0, 1) := by decide +kernel
theorem dX8_forests_152 : decode cX8_forests 152 = .ok (.getfield 27, 3) := by decide +kernel
theorem dX8_forests_155 : decode cX8_forests 155 = .ok (.aload_n 0, 1) := by decide +kernel
theorem dX8_forests_156 : decode cX8_forests 156 = .ok (.getfield 13, 3) := by decide +kernel
theorem dX8_forests_159 : decode cX8_forests 159 = .ok (.iload 4, 2) := by decide +kernel
theorem dX8_forests_161 : decode cX8_forests 161 = .ok (.iaload, 1) := by decide +kernel
theorem dX8_forests_162 : decode cX8_forests 162 = .ok (.iaload, 1) := by decide +kernel
theorem dX8_forests_163 : decode cX8_forests 163 = .ok (.istore 5, 2) := by decide +kernel
theorem dX8_forests_165 : decode cX8_forests 165 = .ok (.aload_n 0, 1) := by decide +kernel
theorem dX8_forests_166 : decode cX8_forests 166 = .ok (.getfield 27, 3) := by decide +kernel
theorem dX8_forests_169 : decode cX8_forests 169 = .ok (.aload_n 0, 1) := by decide +kernel
theorem dX8_forests_170 : decode cX8_forests 170 = .ok (.getfield 17, 3) := by decide +kernel
theorem dX8_forests_173 : decode cX8_forests 173 = .ok (.iload 4, 2) := by decide +kernel
theorem dX8_forests_175 : decode cX8_forests 175 = .ok (.iaload, 1) := by decide +kernel
theorem dX8_forests_176 : decode cX8_forests 176 = .ok (.iaload, 1) := by decide +kernel
theorem dX8_forests_177 : decode cX8_forests 177 = .ok (.istore 6, 2) := by decide +kernel
theorem dX8_forests_179 : decode cX8_forests 179 = .ok (.iload 5, 2) := by decide +kernel
theorem dX8_forests_181 : decode cX8_forests 181 = .ok (.iload 6, 2) := by decide +kernel
theorem dX8_forests_183 : decode cX8_forests 183 = .ok (.if_icmp .ne 6, 3) := by decide +kernel
theorem dX8_forests_186 : decode cX8_forests 186 = .ok (.goto 21, 3) := by decide +kernel
theorem dX8_forests_189 : decode cX8_forests 189 = .ok (.aload_n 0, 1) := by decide +kernel
theorem dX8_forests_190 : decode cX8_forests 190 = .ok (.aload_n 0, 1) := by decide +kernel
theorem dX8_forests_191 : decode cX8_forests 191 = .ok (.getfield 51, 3) := by decide +kernel
theorem dX8_forests_194 : decode cX8_forests 194 = .ok (.iload 5, 2) := by decide +kernel
theorem dX8_forests_196 : decode cX8_forests 196 = .ok (.iaload, 1) := by decide +kernel
theorem dX8_forests_197 : decode cX8_forests 197 = .ok (.aload_n 0, 1) := by decide +kernel
theorem dX8_forests_198 : decode cX8_forests 198 = .ok (.getfield 51, 3) := by decide +kernel
theorem dX8_forests_201 : decode cX8_forests 201 = .ok (.iload 6, 2) := by decide +kernel
theorem dX8_forests_203 : decode cX8_forests 203 = .ok (.iaload, 1) := by decide +kernel
end
section
theorem dX8_forests_204 : decode cX8_forests 204 = .ok (.invokevirtual 99, 3) := by decide +kernel
theorem dX8_forests_207 : decode cX8_forests 207 = .ok (.iinc 4 1, 3) := by decide +kernel
theorem dX8_forests_210 : decode cX8_forests 210 = .ok (.goto (-68), 3) := by decide +kernel
theorem dX8_forests_213 : decode cX8_forests 213 = .ok (.aload_n 0, 1) := by decide +kernel
theorem dX8_forests_214 : decode cX8_forests 214 = .ok (.iload_n 3, 1) := by decide +kernel
theorem dX8_forests_215 : decode cX8_forests 215 = .ok (.invokevirtual 103, 3) := by decide +kernel
theorem dX8_forests_218 : decode cX8_forests 218 = .ok (.lreturn, 1) := by decide +kernel
set_option maxRecDepth 20000 in
theorem ggX8_isFirst_X8_hang : GoodIn wsX8_isFirst wsX8_hang := goodIn_r _ [6, 7, 8, 9, 10, 11, 12, 13, 14, 15, 16, 17, 18, 19, 20, 21, 22, 23, 24, 25, 26, 27, 28, 29, 30, 31] (by decide +kernel) (by decide +kernel)
set_option maxRecDepth 20000 in
theorem gX8_isFirst_X8_hang : GoodIn wsX8_isFirst (wsV RX8 107 RX8 yX8_hang wsX8_hang) := goodIn_app (goodIn_of _ (by decide +kernel)) ggX8_isFirst_X8_hang
theorem dX8_isFirst_0 : decode cX8_isFirst 0 = .ok (.iconst 1, 1) := by decide +kernel
theorem dX8_isFirst_1 : decode cX8_isFirst 1 = .ok (.istore_n 2, 1) := by decide +kernel
theorem dX8_isFirst_2 : decode cX8_isFirst 2 = .ok (.iconst 0, 1) := by decide +kernel
theorem dX8_isFirst_3 : decode cX8_isFirst 3 = .ok (.istore_n 3, 1) := by decide +kernel
theorem dX8_isFirst_4 : decode cX8_isFirst 4 = .ok (.iload_n 3, 1) := by decide +kernel
theorem dX8_isFirst_5 : decode cX8_isFirst 5 = .ok (.iload_n 1, 1) := by decide +kernel
theorem dX8_isFirst_6 : decode cX8_isFirst 6 = .ok (.if_icmp .ge 38, 3) := by decide +kernel
theorem dX8_isFirst_9 : decode cX8_isFirst 9 = .ok (.iload_n 2, 1) := by decide +kernel
theorem dX8_isFirst_10 : decode cX8_isFirst 10 = .ok (.ifCond .eq 26, 3) := by decide +kernel
theorem dX8_isFirst_13 : decode cX8_isFirst 13 = .ok (.aload_n 0, 1) := by decide +kernel
theorem dX8_isFirst_14 : decode cX8_isFirst 14 = .ok (.getfield 27, 3) := by decide +kernel
theorem dX8_isFirst_17 : decode cX8_isFirst 17 = .ok (.iload_n 3, 1) := by decide +kernel
theorem dX8_isFirst_18 : decode cX8_isFirst 18 = .ok (.iaload, 1) := by decide +kernel
theorem dX8_isFirst_19 : decode cX8_isFirst 19 = .ok (.iload_n 3, 1) := by decide +kernel
theorem dX8_isFirst_20 : decode cX8_isFirst 20 = .ok (.if_icmp .ne 12, 3) := by decide +kernel
theorem dX8_isFirst_23 : decode cX8_isFirst 23 = .ok (.aload_n 0, 1) := by decide +kernel
theorem dX8_isFirst_24 : decode cX8_isFirst 24 = .ok (.iload_n 3, 1) := by decide +kernel
theorem dX8_isFirst_25 : decode cX8_isFirst 25 = .ok (.iload_n 1, 1) := by decide +kernel
theorem dX8_isFirst_26 : decode cX8_isFirst 26 = .ok (.invokevirtual 107, 3) := by decide +kernel
theorem dX8_isFirst_29 : decode cX8_isFirst 29 = .ok (.ifCond .ne 7, 3) := by decide +kernel
theorem dX8_isFirst_32 : decode cX8_isFirst 32 = .ok (.iconst 1, 1) := by decide +kernel
theorem dX8_isFirst_33 : decode cX8_isFirst 33 = .ok (.goto 4, 3) := by decide +kernel
theorem dX8_isFirst_36 : decode cX8_isFirst 36 = .ok (.iconst 0, 1) := by decide +kernel
theorem dX8_isFirst_37 : decode cX8_isFirst 37 = .ok (.istore_n 2, 1) := by decide +kernel
theorem dX8_isFirst_38 : decode cX8_isFirst 38 = .ok (.iinc 3 1, 3) := by decide +kernel
theorem dX8_isFirst_41 : decode cX8_isFirst 41 = .ok (.goto (-37), 3) := by decide +kernel
theorem dX8_isFirst_44 : decode cX8_isFirst 44 = .ok (.iload_n 2, 1) := by decide +kernel
theorem dX8_isFirst_45 : decode cX8_isFirst 45 = .ok (.ireturn, 1) := by decide +kernel
theorem dX8_hang_0 : decode cX8_hang 0 = .ok (.iconst 0, 1) := by decide +kernel
theorem dX8_hang_1 : decode cX8_hang 1 = .ok (.istore_n 3, 1) := by decide +kernel
theorem dX8_hang_2 : decode cX8_hang 2 = .ok (.iload_n 3, 1) := by decide +kernel
theorem dX8_hang_3 : decode cX8_hang 3 = .ok (.aload_n 0, 1) := by decide +kernel
theorem dX8_hang_4 : decode cX8_hang 4 = .ok (.getfield 7, 3) := by decide +kernel
theorem dX8_hang_7 : decode cX8_hang 7 = .ok (.if_icmp .ge 25, 3) := by decide +kernel
theorem dX8_hang_10 : decode cX8_hang 10 = .ok (.aload_n 0, 1) := by decide +kernel
theorem dX8_hang_11 : decode cX8_hang 11 = .ok (.getfield 54, 3) := by decide +kernel
theorem dX8_hang_14 : decode cX8_hang 14 = .ok (.iload_n 3, 1) := by decide +kernel
theorem dX8_hang_15 : decode cX8_hang 15 = .ok (.iload_n 3, 1) := by decide +kernel
theorem dX8_hang_16 : decode cX8_hang 16 = .ok (.iload_n 1, 1) := by decide +kernel
theorem dX8_hang_17 : decode cX8_hang 17 = .ok (.if_icmp .ne 7, 3) := by decide +kernel
theorem dX8_hang_20 : decode cX8_hang 20 = .ok (.iconst 1, 1) := by decide +kernel
theorem dX8_hang_21 : decode cX8_hang 21 = .ok (.goto 4, 3) := by decide +kernel
theorem dX8_hang_24 : decode cX8_hang 24 = .ok (.iconst 0, 1) := by decide +kernel
theorem dX8_hang_25 : decode cX8_hang 25 = .ok (.bastore, 1) := by decide +kernel
theorem dX8_hang_26 : decode cX8_hang 26 = .ok (.iinc 3 1, 3) := by decide +kernel
theorem dX8_hang_29 : decode cX8_hang 29 = .ok (.goto (-27), 3) := by decide +kernel
theorem dX8_hang_32 : decode cX8_hang 32 = .ok (.iconst 1, 1) := by decide +kernel
theorem dX8_hang_33 : decode cX8_hang 33 = .ok (.istore_n 3, 1) := by decide +kernel
theorem dX8_hang_34 : decode cX8_hang 34 = .ok (.iload_n 3, 1) := by decide +kernel
theorem dX8_hang_35 : decode cX8_hang 35 = .ok (.ifCond .eq 84, 3) := by decide +kernel
theorem dX8_hang_38 : decode cX8_hang 38 = .ok (.iconst 0, 1) := by decide +kernel
theorem dX8_hang_39 : decode cX8_hang 39 = .ok (.istore_n 3, 1) := by decide +kernel
theorem dX8_hang_40 : decode cX8_hang 40 = .ok (.iconst 0, 1) := by decide +kernel
theorem dX8_hang_41 : decode cX8_hang 41 = .ok (.istore 4, 2) := by decide +kernel
theorem dX8_hang_43 : decode cX8_hang 43 = .ok (.iload 4, 2) := by decide +kernel
theorem dX8_hang_45 : decode cX8_hang 45 = .ok (.aload_n 0, 1) := by decide +kernel
theorem dX8_hang_46 : decode cX8_hang 46 = .ok (.getfield 61, 3) := by decide +kernel
theorem dX8_hang_49 : decode cX8_hang 49 = .ok (.if_icmp .ge 67, 3) := by decide +kernel
theorem dX8_hang_52 : decode cX8_hang 52 = .ok (.aload_n 0, 1) := by decide +kernel
theorem dX8_hang_53 : decode cX8_hang 53 = .ok (.getfield 54, 3) := by decide +kernel
theorem dX8_hang_56 : decode cX8_hang 56 = .ok (.aload_n 0, 1) := by decide +kernel
theorem dX8_hang_57 : decode cX8_hang 57 = .ok (.getfield 13, 3) := by decide +kernel
theorem dX8_hang_60 : decode cX8_hang 60 = .ok (.iload 4, 2) := by decide +kernel
theorem dX8_hang_62 : decode cX8_hang 62 = .ok (.iaload, 1) := by decide +kernel
theorem dX8_hang_63 : decode cX8_hang 63 = .ok (.baload, 1) := by decide +kernel
theorem dX8_hang_64 : decode cX8_hang 64 = .ok (.aload_n 0, 1) := by decide +kernel
theorem dX8_hang_65 : decode cX8_hang 65 = .ok (.getfield 54, 3) := by decide +kernel
theorem dX8_hang_68 : decode cX8_hang 68 = .ok (.aload_n 0, 1) := by decide +kernel
theorem dX8_hang_69 : decode cX8_hang 69 = .ok (.getfield 17, 3) := by decide +kernel
theorem dX8_hang_72 : decode cX8_hang 72 = .ok (.iload 4, 2) := by decide +kernel
theorem dX8_hang_74 : decode cX8_hang 74 = .ok (.iaload, 1) := by decide +kernel
theorem dX8_hang_75 : decode cX8_hang 75 = .ok (.baload, 1) := by decide +kernel
theorem dX8_hang_76 : decode cX8_hang 76 = .ok (.if_icmp .ne 6, 3) := by decide +kernel
theorem dX8_hang_79 : decode cX8_hang 79 = .ok (.goto 31, 3) := by decide +kernel
theorem dX8_hang_82 : decode cX8_hang 82 = .ok (.aload_n 0, 1) := by decide +kernel
theorem dX8_hang_83 : decode cX8_hang 83 = .ok (.getfield 54, 3) := by decide +kernel
theorem dX8_hang_86 : decode cX8_hang 86 = .ok (.aload_n 0, 1) := by decide +kernel
theorem dX8_hang_87 : decode cX8_hang 87 = .ok (.getfield 13, 3) := by decide +kernel
theorem dX8_hang_90 : decode cX8_hang 90 = .ok (.iload 4, 2) := by decide +kernel
theorem dX8_hang_92 : decode cX8_hang 92 = .ok (.iaload, 1) := by decide +kernel
theorem dX8_hang_93 : decode cX8_hang 93 = .ok (.iconst 1, 1) := by decide +kernel
theorem dX8_hang_94 : decode cX8_hang 94 = .ok (.bastore, 1) := by decide +kernel
theorem dX8_hang_95 : decode cX8_hang 95 = .ok (.aload_n 0, 1) := by decide +kernel
theorem dX8_hang_96 : decode cX8_hang 96 = .ok (.getfield 54, 3) := by decide +kernel
theorem dX8_hang_99 : decode cX8_hang 99 = .ok (.aload_n 0, 1) := by decide +kernel
theorem dX8_hang_100 : decode cX8_hang 100 = .ok (.getfield 17, 3) := by decide +kernel
theorem dX8_hang_103 : decode cX8_hang 103 = .ok (.iload 4, 2) := by decide +kernel
theorem dX8_hang_105 : decode cX8_hang 105 = .ok (.iaload, 1) := by decide +kernel
theorem dX8_hang_106 : decode cX8_hang 106 = .ok (.iconst 1, 1) := by decide +kernel
theorem dX8_hang_107 : decode cX8_hang 107 = .ok (.bastore, 1) := by decide +kernel
theorem dX8_hang_108 : decode cX8_hang 108 = .ok (.iconst 1, 1) := by decide +kernel
theorem dX8_hang_109 : decode cX8_hang 109 = .ok (.istore_n 3, 1) := by decide +kernel
theorem dX8_hang_110 : decode cX8_hang 110 = .ok (.iinc 4 1, 3) := by decide +kernel
theorem dX8_hang_113 : decode cX8_hang 113 = .ok (.goto (-70), 3) := by decide +kernel
theorem dX8_hang_116 : decode cX8_hang 116 = .ok (.goto (-82), 3) := by decide +kernel
theorem dX8_hang_119 : decode cX8_hang 119 = .ok (.aload_n 0, 1) := by decide +kernel
theorem dX8_hang_120 : decode cX8_hang 120 = .ok (.getfield 54, 3) := by decide +kernel
theorem dX8_hang_123 : decode cX8_hang 123 = .ok (.iload_n 2, 1) := by decide +kernel
theorem dX8_hang_124 : decode cX8_hang 124 = .ok (.baload, 1) := by decide +kernel
theorem dX8_hang_125 : decode cX8_hang 125 = .ok (.ireturn, 1) := by decide +kernel
theorem dX8_lay_0 : decode cX8_lay 0 = .ok (.iload_n 1, 1) := by decide +kernel
theorem dX8_lay_1 : decode cX8_lay 1 = .ok (.ifCond .lt 16, 3) := by decide +kernel
theorem dX8_lay_4 : decode cX8_lay 4 = .ok (.aload_n 0, 1) := by decide +kernel
theorem dX8_lay_5 : decode cX8_lay 5 = .ok (.getfield 48, 3) := by decide +kernel
theorem dX8_lay_8 : decode cX8_lay 8 = .ok (.bipush 17, 2) := by decide +kernel
theorem dX8_lay_10 : decode cX8_lay 10 = .ok (.iload_n 1, 1) := by decide +kernel
theorem dX8_lay_11 : decode cX8_lay 11 = .ok (.imul, 1) := by decide +kernel
theorem dX8_lay_12 : decode cX8_lay 12 = .ok (.dup2, 1) := by decide +kernel
theorem dX8_lay_13 : decode cX8_lay 13 = .ok (.laload, 1) := by decide +kernel
theorem dX8_lay_14 : decode cX8_lay 14 = .ok (.lconst 1, 1) := by decide +kernel
theorem dX8_lay_15 : decode cX8_lay 15 = .ok (.ladd, 1) := by decide +kernel
theorem dX8_lay_16 : decode cX8_lay 16 = .ok (.lastore, 1) := by decide +kernel
theorem dX8_lay_17 : decode cX8_lay 17 = .ok (.iload_n 2, 1) := by decide +kernel
theorem dX8_lay_18 : decode cX8_lay 18 = .ok (.ifCond .lt 16, 3) := by decide +kernel
theorem dX8_lay_21 : decode cX8_lay 21 = .ok (.aload_n 0, 1) := by decide +kernel
theorem dX8_lay_22 : decode cX8_lay 22 = .ok (.getfield 48, 3) := by decide +kernel
theorem dX8_lay_25 : decode cX8_lay 25 = .ok (.bipush 17, 2) := by decide +kernel
theorem dX8_lay_27 : decode cX8_lay 27 = .ok (.iload_n 2, 1) := by decide +kernel
theorem dX8_lay_28 : decode cX8_lay 28 = .ok (.imul, 1) := by decide +kernel
theorem dX8_lay_29 : decode cX8_lay 29 = .ok (.dup2, 1) := by decide +kernel
theorem dX8_lay_30 : decode cX8_lay 30 = .ok (.laload, 1) := by decide +kernel
theorem dX8_lay_31 : decode cX8_lay 31 = .ok (.lconst 1, 1) := by decide +kernel
theorem dX8_lay_32 : decode cX8_lay 32 = .ok (.ladd, 1) := by decide +kernel
theorem dX8_lay_33 : decode cX8_lay 33 = .ok (.lastore, 1) := by decide +kernel
theorem dX8_lay_34 : decode cX8_lay 34 = .ok (.iload_n 1, 1) := by decide +kernel
theorem dX8_lay_35 : decode cX8_lay 35 = .ok (.ifCond .lt 7, 3) := by decide +kernel
theorem dX8_lay_38 : decode cX8_lay 38 = .ok (.iload_n 2, 1) := by decide +kernel
theorem dX8_lay_39 : decode cX8_lay 39 = .ok (.ifCond .ge 4, 3) := by decide +kernel
theorem dX8_lay_42 : decode cX8_lay 42 = .ok (.return_, 1) := by decide +kernel
theorem dX8_lay_43 : decode cX8_lay 43 = .ok (.aload_n 0, 1) := by decide +kernel
theorem dX8_lay_44 : decode cX8_lay 44 = .ok (.getfield 48, 3) := by decide +kernel
theorem dX8_lay_47 : decode cX8_lay 47 = .ok (.bipush 16, 2) := by decide +kernel
theorem dX8_lay_49 : decode cX8_lay 49 = .ok (.iload_n 1, 1) := by decide +kernel
theorem dX8_lay_50 : decode cX8_lay 50 = .ok (.imul, 1) := by decide +kernel
theorem dX8_lay_51 : decode cX8_lay 51 = .ok (.iload_n 2, 1) := by decide +kernel
theorem dX8_lay_52 : decode cX8_lay 52 = .ok (.iadd, 1) := by decide +kernel
theorem dX8_lay_53 : decode cX8_lay 53 = .ok (.dup2, 1) := by decide +kernel
theorem dX8_lay_54 : decode cX8_lay 54 = .ok (.laload, 1) := by decide +kernel
theorem dX8_lay_55 : decode cX8_lay 55 = .ok (.lconst 1, 1) := by decide +kernel
theorem dX8_lay_56 : decode cX8_lay 56 = .ok (.lsub, 1) := by decide +kernel
theorem dX8_lay_57 : decode cX8_lay 57 = .ok (.lastore, 1) := by decide +kernel
theorem dX8_lay_58 : decode cX8_lay 58 = .ok (.aload_n 0, 1) := by decide +kernel
theorem dX8_lay_59 : decode cX8_lay 59 = .ok (.getfield 48, 3) := by decide +kernel
theorem dX8_lay_62 : decode cX8_lay 62 = .ok (.bipush 16, 2) := by decide +kernel
theorem dX8_lay_64 : decode cX8_lay 64 = .ok (.iload_n 2, 1) := by decide +kernel
theorem dX8_lay_65 : decode cX8_lay 65 = .ok (.imul, 1) := by decide +kernel
theorem dX8_lay_66 : decode cX8_lay 66 = .ok (.iload_n 1, 1) := by decide +kernel
theorem dX8_lay_67 : decode cX8_lay 67 = .ok (.iadd, 1) := by decide +kernel
theorem dX8_lay_68 : decode cX8_lay 68 = .ok (.dup2, 1) := by decide +kernel
theorem dX8_lay_69 : decode cX8_lay 69 = .ok (.laload, 1) := by decide +kernel
theorem dX8_lay_70 : decode cX8_lay 70 = .ok (.lconst 1, 1) := by decide +kernel
theorem dX8_lay_71 : decode cX8_lay 71 = .ok (.lsub, 1) := by decide +kernel
theorem dX8_lay_72 : decode cX8_lay 72 = .ok (.lastore, 1) := by decide +kernel
theorem dX8_lay_73 : decode cX8_lay 73 = .ok (.return_, 1) := by decide +kernel
theorem dX8_determinant_0 : decode cX8_determinant 0 = .ok (.lconst 1, 1) := by decide +kernel
theorem dX8_determinant_1 : decode cX8_determinant 1 = .ok (.lstore_n 2, 1) := by decide +kernel
theorem dX8_determinant_2 : decode cX8_determinant 2 = .ok (.iconst 0, 1) := by decide +kernel
theorem dX8_determinant_3 : decode cX8_determinant 3 = .ok (.istore 4, 2) := by decide +kernel
theorem dX8_determinant_5 : decode cX8_determinant 5 = .ok (.iload 4, 2) := by decide +kernel
theorem dX8_determinant_7 : decode cX8_determinant 7 = .ok (.iload_n 1, 1) := by decide +kernel
theorem dX8_determinant_8 : decode cX8_determinant 8 = .ok (.if_icmp .ge 119, 3) := by decide +kernel
theorem dX8_determinant_11 : decode cX8_determinant 11 = .ok (.aload_n 0, 1) := by decide +kernel
theorem dX8_determinant_12 : decode cX8_determinant 12 = .ok (.getfield 48, 3) := by decide +kernel
theorem dX8_determinant_15 : decode cX8_determinant 15 = .ok (.bipush 17, 2) := by decide +kernel
theorem dX8_determinant_17 : decode cX8_determinant 17 = .ok (.iload 4, 2) := by decide +kernel
theorem dX8_determinant_19 : decode cX8_determinant 19 = .ok (.imul, 1) := by decide +kernel
theorem dX8_determinant_20 : decode cX8_determinant 20 = .ok (.laload, 1) := by decide +kernel
theorem dX8_determinant_21 : decode cX8_determinant 21 = .ok (.lstore 5, 2) := by decide +kernel
theorem dX8_determinant_23 : decode cX8_determinant 23 = .ok (.iload 4, 2) := by decide +kernel
theorem dX8_determinant_25 : decode cX8_determinant 25 = .ok (.iconst 1, 1) := by decide +kernel
theorem dX8_determinant_26 : decode cX8_determinant 26 = .ok (.iadd, 1) := by decide +kernel
theorem dX8_determinant_27 : decode cX8_determinant 27 = .ok (.istore 7, 2) := by decide +kernel
theorem dX8_determinant_29 : decode cX8_determinant 29 = .ok (.iload 7, 2) := by decide +kernel
theorem dX8_determinant_31 : decode cX8_determinant 31 = .ok (.iload_n 1, 1) := by decide +kernel
theorem dX8_determinant_32 : decode cX8_determinant 32 = .ok (.if_icmp .ge 86, 3) := by decide +kernel
theorem dX8_determinant_35 : decode cX8_determinant 35 = .ok (.iload 4, 2) := by decide +kernel
theorem dX8_determinant_37 : decode cX8_determinant 37 = .ok (.iconst 1, 1) := by decide +kernel
theorem dX8_determinant_38 : decode cX8_determinant 38 = .ok (.iadd, 1) := by decide +kernel
theorem dX8_determinant_39 : decode cX8_determinant 39 = .ok (.istore 8, 2) := by decide +kernel
theorem dX8_determinant_41 : decode cX8_determinant 41 = .ok (.iload 8, 2) := by decide +kernel
theorem dX8_determinant_43 : decode cX8_determinant 43 = .ok (.iload_n 1, 1) := by decide +kernel
theorem dX8_determinant_44 : decode cX8_determinant 44 = .ok (.if_icmp .ge 68, 3) := by decide +kernel
theorem dX8_determinant_47 : decode cX8_determinant 47 = .ok (.aload_n 0, 1) := by decide +kernel
theorem dX8_determinant_48 : decode cX8_determinant 48 = .ok (.getfield 48, 3) := by decide +kernel
theorem dX8_determinant_51 : decode cX8_determinant 51 = .ok (.bipush 16, 2) := by decide +kernel
theorem dX8_determinant_53 : decode cX8_determinant 53 = .ok (.iload 7, 2) := by decide +kernel
theorem dX8_determinant_55 : decode cX8_determinant 55 = .ok (.imul, 1) := by decide +kernel
theorem dX8_determinant_56 : decode cX8_determinant 56 = .ok (.iload 8, 2) := by decide +kernel
theorem dX8_determinant_58 : decode cX8_determinant 58 = .ok (.iadd, 1) := by decide +kernel
theorem dX8_determinant_59 : decode cX8_determinant 59 = .ok (.aload_n 0, 1) := by decide +kernel
theorem dX8_determinant_60 : decode cX8_determinant 60 = .ok (.getfield 48, 3) := by decide +kernel
theorem dX8_determinant_63 : decode cX8_determinant 63 = .ok (.bipush 16, 2) := by decide +kernel
theorem dX8_determinant_65 : decode cX8_determinant 65 = .ok (.iload 7, 2) := by decide +kernel
theorem dX8_determinant_67 : decode cX8_determinant 67 = .ok (.imul, 1) := by decide +kernel
theorem dX8_determinant_68 : decode cX8_determinant 68 = .ok (.iload 8, 2) := by decide +kernel
theorem dX8_determinant_70 : decode cX8_determinant 70 = .ok (.iadd, 1) := by decide +kernel
theorem dX8_determinant_71 : decode cX8_determinant 71 = .ok (.laload, 1) := by decide +kernel
theorem dX8_determinant_72 : decode cX8_determinant 72 = .ok (.lload 5, 2) := by decide +kernel
theorem dX8_determinant_74 : decode cX8_determinant 74 = .ok (.lmul, 1) := by decide +kernel
theorem dX8_determinant_75 : decode cX8_determinant 75 = .ok (.aload_n 0, 1) := by decide +kernel
theorem dX8_determinant_76 : decode cX8_determinant 76 = .ok (.getfield 48, 3) := by decide +kernel
theorem dX8_determinant_79 : decode cX8_determinant 79 = .ok (.bipush 16, 2) := by decide +kernel
theorem dX8_determinant_81 : decode cX8_determinant 81 = .ok (.iload 7, 2) := by decide +kernel
theorem dX8_determinant_83 : decode cX8_determinant 83 = .ok (.imul, 1) := by decide +kernel
theorem dX8_determinant_84 : decode cX8_determinant 84 = .ok (.iload 4, 2) := by decide +kernel
theorem dX8_determinant_86 : decode cX8_determinant 86 = .ok (.iadd, 1) := by decide +kernel
theorem dX8_determinant_87 : decode cX8_determinant 87 = .ok (.laload, 1) := by decide +kernel
theorem dX8_determinant_88 : decode cX8_determinant 88 = .ok (.aload_n 0, 1) := by decide +kernel
theorem dX8_determinant_89 : decode cX8_determinant 89 = .ok (.getfield 48, 3) := by decide +kernel
theorem dX8_determinant_92 : decode cX8_determinant 92 = .ok (.bipush 16, 2) := by decide +kernel
theorem dX8_determinant_94 : decode cX8_determinant 94 = .ok (.iload 4, 2) := by decide +kernel
theorem dX8_determinant_96 : decode cX8_determinant 96 = .ok (.imul, 1) := by decide +kernel
theorem dX8_determinant_97 : decode cX8_determinant 97 = .ok (.iload 8, 2) := by decide +kernel
theorem dX8_determinant_99 : decode cX8_determinant 99 = .ok (.iadd, 1) := by decide +kernel
theorem dX8_determinant_100 : decode cX8_determinant 100 = .ok (.laload, 1) := by decide +kernel
theorem dX8_determinant_101 : decode cX8_determinant 101 = .ok (.lmul, 1) := by decide +kernel
theorem dX8_determinant_102 : decode cX8_determinant 102 = .ok (.lsub, 1) := by decide +kernel
theorem dX8_determinant_103 : decode cX8_determinant 103 = .ok (.lload_n 2, 1) := by decide +kernel
theorem dX8_determinant_104 : decode cX8_determinant 104 = .ok (.ldiv, 1) := by decide +kernel
theorem dX8_determinant_105 : decode cX8_determinant 105 = .ok (.lastore, 1) := by decide +kernel
theorem dX8_determinant_106 : decode cX8_determinant 106 = .ok (.iinc 8 1, 3) := by decide +kernel
theorem dX8_determinant_109 : decode cX8_determinant 109 = .ok (.goto (-68), 3) := by decide +kernel
theorem dX8_determinant_112 : decode cX8_determinant 112 = .ok (.iinc 7 1, 3) := by decide +kernel
theorem dX8_determinant_115 : decode cX8_determinant 115 = .ok (.goto (-86), 3) := by decide +kernel
theorem dX8_determinant_118 : decode cX8_determinant 118 = .ok (.lload 5, 2) := by decide +kernel
theorem dX8_determinant_120 : decode cX8_determinant 120 = .ok (.lstore_n 2, 1) := by decide +kernel
theorem dX8_determinant_121 : decode cX8_determinant 121 = .ok (.iinc 4 1, 3) := by decide +kernel
theorem dX8_determinant_124 : decode cX8_determinant 124 = .ok (.goto (-119), 3) := by decide +kernel
theorem dX8_determinant_127 : decode cX8_determinant 127 = .ok (.lload_n 2, 1) := by decide +kernel
theorem dX8_determinant_128 : decode cX8_determinant 128 = .ok (.lreturn, 1) := by decide +kernel
set_option maxRecDepth 20000 in
theorem ggX8_lightest_X8_isSet : GoodIn wsX8_lightest wsX8_isSet := goodIn_r _ [11, 2, 38, 39, 40, 41, 42, 43, 44, 45, 46, 47, 48, 49, 50, 51, 52, 53, 54, 55, 56, 57] (by decide +kernel) (by decide +kernel)
set_option maxRecDepth 20000 in
theorem gX8_lightest_X8_isSet : GoodIn wsX8_lightest (wsV RX8 89 RX8 yX8_isSet wsX8_isSet) := goodIn_app (goodIn_of _ (by decide +kernel)) ggX8_lightest_X8_isSet
set_option maxRecDepth 20000 in
theorem ggX8_lightest_X8_throwing : GoodIn wsX8_lightest wsX8_throwing := goodIn_r _ [15, 16, 38, 39, 40, 41, 42, 43, 44, 45, 46, 47, 48, 49, 50, 51, 52, 53, 54, 55, 56, 57] (by decide +kernel) (by decide +kernel)
set_option maxRecDepth 20000 in
theorem gX8_lightest_X8_throwing : GoodIn wsX8_lightest (wsV RX8 78 RX8 yX8_throwing wsX8_throwing) := goodIn_app (goodIn_of _ (by decide +kernel)) ggX8_lightest_X8_throwing
set_option maxRecDepth 20000 in
theorem ggX8_lightest_X8_beginsWith : GoodIn wsX8_lightest wsX8_beginsWith := goodIn_r _ [20, 2, 21, 22, 23, 10, 24, 25, 3, 26, 27, 28, 29, 30, 4, 5, 31, 32, 33, 38, 39, 40, 41, 42, 43, 44, 45, 46, 47, 48, 49, 50, 51, 52, 53, 54, 55, 56, 57] (by decide +kernel) (by decide +kernel)
set_option maxRecDepth 20000 in
theorem gX8_lightest_X8_beginsWith : GoodIn wsX8_lightest (wsV RX8 93 RX8 yX8_beginsWith wsX8_beginsWith) := goodIn_app (goodIn_of _ (by decide +kernel)) ggX8_lightest_X8_beginsWith
set_option maxRecDepth 20000 in
theorem ggX8_lightest_X8_weightOf : GoodIn wsX8_lightest wsX8_weightOf := goodIn_r _ [37, 2, 6, 38, 39, 40, 41, 42, 43, 44, 45, 46, 47, 48, 49, 50, 51, 52, 53, 54, 55, 56, 57] (by decide +kernel) (by decide +kernel)
set_option maxRecDepth 20000 in
theorem gX8_lightest_X8_weightOf : GoodIn wsX8_lightest (wsV RX8 113 RX8 yX8_weightOf wsX8_weightOf) := goodIn_app (goodIn_of _ (by decide +kernel)) ggX8_lightest_X8_weightOf
set_option maxRecDepth 20000 in
theorem ggX8_lightest_X8_joins : GoodIn wsX8_lightest wsX8_joins := goodIn_r _ [30, 4, 5, 3, 31, 25, 26, 32, 33, 38, 39, 40, 41, 42, 43, 44, 45, 46, 47, 48, 49, 50, 51, 52, 53, 54, 55, 56, 57] (by decide +kernel) (by decide +kernel)
set_option maxRecDepth 20000 in
theorem gX8_lightest_X8_joins : GoodIn wsX8_lightest (wsV RX8 70 RX8 yX8_joins wsX8_joins) := goodIn_app (goodIn_of _ (by decide +kernel)) ggX8_lightest_X8_joins
theorem dX8_lightest_0 : decode cX8_lightest 0 = .ok (.aload_n 0, 1) := by decide +kernel
theorem dX8_lightest_1 : decode cX8_lightest 1 = .ok (.aload_n 0, 1) := by decide +kernel
theorem dX8_lightest_2 : decode cX8_lightest 2 = .ok (.lload_n 1, 1) := by decide +kernel
theorem dX8_lightest_3 : decode cX8_lightest 3 = .ok (.invokevirtual 89, 3) := by decide +kernel
theorem dX8_lightest_6 : decode cX8_lightest 6 = .ok (.ifCond .ne 7, 3) := by decide +kernel
theorem dX8_lightest_9 : decode cX8_lightest 9 = .ok (.iconst 1, 1) := by decide +kernel
theorem dX8_lightest_10 : decode cX8_lightest 10 = .ok (.goto 4, 3) := by decide +kernel
theorem dX8_lightest_13 : decode cX8_lightest 13 = .ok (.iconst 0, 1) := by decide +kernel
theorem dX8_lightest_14 : decode cX8_lightest 14 = .ok (.iconst 0, 1) := by decide +kernel
theorem dX8_lightest_15 : decode cX8_lightest 15 = .ok (.invokevirtual 78, 3) := by decide +kernel
theorem dX8_lightest_18 : decode cX8_lightest 18 = .ok (.ifCond .eq 5, 3) := by decide +kernel
theorem dX8_lightest_21 : decode cX8_lightest 21 = .ok (.lconst 0, 1) := by decide +kernel
theorem dX8_lightest_22 : decode cX8_lightest 22 = .ok (.lreturn, 1) := by decide +kernel
theorem dX8_lightest_23 : decode cX8_lightest 23 = .ok (.aload_n 0, 1) := by decide +kernel
theorem dX8_lightest_24 : decode cX8_lightest 24 = .ok (.lload_n 1, 1) := by decide +kernel
theorem dX8_lightest_25 : decode cX8_lightest 25 = .ok (.invokevirtual 93, 3) := by decide +kernel
theorem dX8_lightest_28 : decode cX8_lightest 28 = .ok (.ifCond .ne 7, 3) := by decide +kernel
theorem dX8_lightest_31 : decode cX8_lightest 31 = .ok (.ldc2_w 111, 3) := by decide +kernel
theorem dX8_lightest_34 : decode cX8_lightest 34 = .ok (.lreturn, 1) := by decide +kernel
theorem dX8_lightest_35 : decode cX8_lightest 35 = .ok (.aload_n 0, 1) := by decide +kernel
theorem dX8_lightest_36 : decode cX8_lightest 36 = .ok (.lload_n 1, 1) := by decide +kernel
theorem dX8_lightest_37 : decode cX8_lightest 37 = .ok (.invokevirtual 113, 3) := by decide +kernel
theorem dX8_lightest_40 : decode cX8_lightest 40 = .ok (.lstore_n 3, 1) := by decide +kernel
theorem dX8_lightest_41 : decode cX8_lightest 41 = .ok (.iconst 1, 1) := by decide +kernel
theorem dX8_lightest_42 : decode cX8_lightest 42 = .ok (.istore 5, 2) := by decide +kernel
theorem dX8_lightest_44 : decode cX8_lightest 44 = .ok (.iload 5, 2) := by decide +kernel
theorem dX8_lightest_46 : decode cX8_lightest 46 = .ok (.ifCond .eq 124, 3) := by decide +kernel
theorem dX8_lightest_49 : decode cX8_lightest 49 = .ok (.iconst (-1), 1) := by decide +kernel
theorem dX8_lightest_50 : decode cX8_lightest 50 = .ok (.istore 6, 2) := by decide +kernel
theorem dX8_lightest_52 : decode cX8_lightest 52 = .ok (.iconst 0, 1) := by decide +kernel
theorem dX8_lightest_53 : decode cX8_lightest 53 = .ok (.istore 7, 2) := by decide +kernel
theorem dX8_lightest_55 : decode cX8_lightest 55 = .ok (.iload 7, 2) := by decide +kernel
theorem dX8_lightest_57 : decode cX8_lightest 57 = .ok (.aload_n 0, 1) := by decide +kernel
theorem dX8_lightest_58 : decode cX8_lightest 58 = .ok (.getfield 61, 3) := by decide +kernel
theorem dX8_lightest_61 : decode cX8_lightest 61 = .ok (.if_icmp .ge 65, 3) := by decide +kernel
theorem dX8_lightest_64 : decode cX8_lightest 64 = .ok (.aload_n 0, 1) := by decide +kernel
theorem dX8_lightest_65 : decode cX8_lightest 65 = .ok (.getfield 27, 3) := by decide +kernel
theorem dX8_lightest_68 : decode cX8_lightest 68 = .ok (.aload_n 0, 1) := by decide +kernel
theorem dX8_lightest_69 : decode cX8_lightest 69 = .ok (.getfield 13, 3) := by decide +kernel
theorem dX8_lightest_72 : decode cX8_lightest 72 = .ok (.iload 7, 2) := by decide +kernel
theorem dX8_lightest_74 : decode cX8_lightest 74 = .ok (.iaload, 1) := by decide +kernel
theorem dX8_lightest_75 : decode cX8_lightest 75 = .ok (.iaload, 1) := by decide +kernel
theorem dX8_lightest_76 : decode cX8_lightest 76 = .ok (.aload_n 0, 1) := by decide +kernel
theorem dX8_lightest_77 : decode cX8_lightest 77 = .ok (.getfield 27, 3) := by decide +kernel
theorem dX8_lightest_80 : decode cX8_lightest 80 = .ok (.aload_n 0, 1) := by decide +kernel
theorem dX8_lightest_81 : decode cX8_lightest 81 = .ok (.getfield 17, 3) := by decide +kernel
theorem dX8_lightest_84 : decode cX8_lightest 84 = .ok (.iload 7, 2) := by decide +kernel
theorem dX8_lightest_86 : decode cX8_lightest 86 = .ok (.iaload, 1) := by decide +kernel
theorem dX8_lightest_87 : decode cX8_lightest 87 = .ok (.iaload, 1) := by decide +kernel
theorem dX8_lightest_88 : decode cX8_lightest 88 = .ok (.if_icmp .ne 6, 3) := by decide +kernel
theorem dX8_lightest_91 : decode cX8_lightest 91 = .ok (.goto 29, 3) := by decide +kernel
theorem dX8_lightest_94 : decode cX8_lightest 94 = .ok (.iload 6, 2) := by decide +kernel
theorem dX8_lightest_96 : decode cX8_lightest 96 = .ok (.ifCond .lt 20, 3) := by decide +kernel
theorem dX8_lightest_99 : decode cX8_lightest 99 = .ok (.aload_n 0, 1) := by decide +kernel
theorem dX8_lightest_100 : decode cX8_lightest 100 = .ok (.getfield 20, 3) := by decide +kernel
theorem dX8_lightest_103 : decode cX8_lightest 103 = .ok (.iload 7, 2) := by decide +kernel
theorem dX8_lightest_105 : decode cX8_lightest 105 = .ok (.iaload, 1) := by decide +kernel
theorem dX8_lightest_106 : decode cX8_lightest 106 = .ok (.aload_n 0, 1) := by decide +kernel
theorem dX8_lightest_107 : decode cX8_lightest 107 = .ok (.getfield 20, 3) := by decide +kernel
theorem dX8_lightest_110 : decode cX8_lightest 110 = .ok (.iload 6, 2) := by decide +kernel
theorem dX8_lightest_112 : decode cX8_lightest 112 = .ok (.iaload, 1) := by decide +kernel
theorem dX8_lightest_113 : decode cX8_lightest 113 = .ok (.if_icmp .ge 7, 3) := by decide +kernel
theorem dX8_lightest_116 : decode cX8_lightest 116 = .ok (.iload 7, 2) := by decide +kernel
theorem dX8_lightest_118 : decode cX8_lightest 118 = .ok (.istore 6, 2) := by decide +kernel
theorem dX8_lightest_120 : decode cX8_lightest 120 = .ok (.iinc 7 1, 3) := by decide +kernel
theorem dX8_lightest_123 : decode cX8_lightest 123 = .ok (.goto (-68), 3) := by decide +kernel
theorem dX8_lightest_126 : decode cX8_lightest 126 = .ok (.iload 6, 2) := by decide +kernel
theorem dX8_lightest_128 : decode cX8_lightest 128 = .ok (.ifCond .lt 16, 3) := by decide +kernel
theorem dX8_lightest_131 : decode cX8_lightest 131 = .ok (.aload_n 0, 1) := by decide +kernel
theorem dX8_lightest_132 : decode cX8_lightest 132 = .ok (.iload 6, 2) := by decide +kernel
theorem dX8_lightest_134 : decode cX8_lightest 134 = .ok (.invokevirtual 70, 3) := by decide +kernel
theorem dX8_lightest_137 : decode cX8_lightest 137 = .ok (.ifCond .eq 7, 3) := by decide +kernel
theorem dX8_lightest_140 : decode cX8_lightest 140 = .ok (.iconst 1, 1) := by decide +kernel
theorem dX8_lightest_141 : decode cX8_lightest 141 = .ok (.goto 4, 3) := by decide +kernel
theorem dX8_lightest_144 : decode cX8_lightest 144 = .ok (.iconst 0, 1) := by decide +kernel
theorem dX8_lightest_145 : decode cX8_lightest 145 = .ok (.istore 5, 2) := by decide +kernel
theorem dX8_lightest_147 : decode cX8_lightest 147 = .ok (.lload_n 3, 1) := by decide +kernel
theorem dX8_lightest_148 : decode cX8_lightest 148 = .ok (.iload 5, 2) := by decide +kernel
theorem dX8_lightest_150 : decode cX8_lightest 150 = .ok (.ifCond .eq 14, 3) := by decide +kernel
theorem dX8_lightest_153 : decode cX8_lightest 153 = .ok (.aload_n 0, 1) := by decide +kernel
theorem dX8_lightest_154 : decode cX8_lightest 154 = .ok (.getfield 20, 3) := by decide +kernel
theorem dX8_lightest_157 : decode cX8_lightest 157 = .ok (.iload 6, 2) := by decide +kernel
theorem dX8_lightest_159 : decode cX8_lightest 159 = .ok (.iaload, 1) := by decide +kernel
theorem dX8_lightest_160 : decode cX8_lightest 160 = .ok (.i2l, 1) := by decide +kernel
theorem dX8_lightest_161 : decode cX8_lightest 161 = .ok (.goto 4, 3) := by decide +kernel
theorem dX8_lightest_164 : decode cX8_lightest 164 = .ok (.lconst 0, 1) := by decide +kernel
theorem dX8_lightest_165 : decode cX8_lightest 165 = .ok (.ladd, 1) := by decide +kernel
theorem dX8_lightest_166 : decode cX8_lightest 166 = .ok (.lstore_n 3, 1) := by decide +kernel
theorem dX8_lightest_167 : decode cX8_lightest 167 = .ok (.goto (-123), 3) := by decide +kernel
theorem dX8_lightest_170 : decode cX8_lightest 170 = .ok (.lload_n 3, 1) := by decide +kernel
theorem dX8_lightest_171 : decode cX8_lightest 171 = .ok (.lreturn, 1) := by decide +kernel
set_option maxRecDepth 20000 in
theorem ggX8_spread_X8_dimension : GoodIn wsX8_spread wsX8_dimension := goodIn_r _ [9, 10, 11, 12, 13, 14, 8, 15, 16, 17, 18, 19, 2, 20, 21, 22, 23, 24, 25, 26, 27, 3, 28, 34, 35, 36, 37, 38, 39, 40, 41, 42, 43, 44, 45, 46, 47, 48, 49, 50, 51, 52, 53] (by decide +kernel) (by decide +kernel)
set_option maxRecDepth 20000 in
theorem gX8_spread_X8_dimension : GoodIn wsX8_spread (wsV RX8 86 RX8 yX8_dimension wsX8_dimension) := goodIn_app (goodIn_of _ (by decide +kernel)) ggX8_spread_X8_dimension
set_option maxRecDepth 20000 in
theorem ggX8_spread_X8_weightOf : GoodIn wsX8_spread wsX8_weightOf := goodIn_r _ [32, 10, 33, 34, 35, 36, 37, 38, 39, 40, 41, 42, 43, 44, 45, 46, 47, 48, 49, 50, 51, 52, 53] (by decide +kernel) (by decide +kernel)
set_option maxRecDepth 20000 in
theorem gX8_spread_X8_weightOf : GoodIn wsX8_spread (wsV RX8 113 RX8 yX8_weightOf wsX8_weightOf) := goodIn_app (goodIn_of _ (by decide +kernel)) ggX8_spread_X8_weightOf
theorem dX8_spread_0 : decode cX8_spread 0 = .ok (.iconst 1, 1) := by decide +kernel
theorem dX8_spread_1 : decode cX8_spread 1 = .ok (.aload_n 0, 1) := by decide +kernel
theorem dX8_spread_2 : decode cX8_spread 2 = .ok (.invokevirtual 86, 3) := by decide +kernel
theorem dX8_spread_5 : decode cX8_spread 5 = .ok (.ishl, 1) := by decide +kernel
theorem dX8_spread_6 : decode cX8_spread 6 = .ok (.istore_n 1, 1) := by decide +kernel
theorem dX8_spread_7 : decode cX8_spread 7 = .ok (.iconst 0, 1) := by decide +kernel
theorem dX8_spread_8 : decode cX8_spread 8 = .ok (.istore_n 2, 1) := by decide +kernel
theorem dX8_spread_9 : decode cX8_spread 9 = .ok (.iload_n 2, 1) := by decide +kernel
theorem dX8_spread_10 : decode cX8_spread 10 = .ok (.iload_n 1, 1) := by decide +kernel
theorem dX8_spread_11 : decode cX8_spread 11 = .ok (.if_icmp .ge 72, 3) := by decide +kernel
theorem dX8_spread_14 : decode cX8_spread 14 = .ok (.aload_n 0, 1) := by decide +kernel
theorem dX8_spread_15 : decode cX8_spread 15 = .ok (.getfield 39, 3) := by decide +kernel
theorem dX8_spread_18 : decode cX8_spread 18 = .ok (.iload_n 2, 1) := by decide +kernel
theorem dX8_spread_19 : decode cX8_spread 19 = .ok (.lconst 0, 1) := by decide +kernel
theorem dX8_spread_20 : decode cX8_spread 20 = .ok (.lastore, 1) := by decide +kernel
theorem dX8_spread_21 : decode cX8_spread 21 = .ok (.iconst 0, 1) := by decide +kernel
theorem dX8_spread_22 : decode cX8_spread 22 = .ok (.istore_n 3, 1) := by decide +kernel
theorem dX8_spread_23 : decode cX8_spread 23 = .ok (.iload_n 3, 1) := by decide +kernel
theorem dX8_spread_24 : decode cX8_spread 24 = .ok (.aload_n 0, 1) := by decide +kernel
theorem dX8_spread_25 : decode cX8_spread 25 = .ok (.getfield 64, 3) := by decide +kernel
theorem dX8_spread_28 : decode cX8_spread 28 = .ok (.if_icmp .ge 33, 3) := by decide +kernel
theorem dX8_spread_31 : decode cX8_spread 31 = .ok (.iload_n 2, 1) := by decide +kernel
theorem dX8_spread_32 : decode cX8_spread 32 = .ok (.iload_n 3, 1) := by decide +kernel
theorem dX8_spread_33 : decode cX8_spread 33 = .ok (.ishr, 1) := by decide +kernel
theorem dX8_spread_34 : decode cX8_spread 34 = .ok (.iconst 1, 1) := by decide +kernel
theorem dX8_spread_35 : decode cX8_spread 35 = .ok (.iand, 1) := by decide +kernel
theorem dX8_spread_36 : decode cX8_spread 36 = .ok (.iconst 1, 1) := by decide +kernel
theorem dX8_spread_37 : decode cX8_spread 37 = .ok (.if_icmp .ne 18, 3) := by decide +kernel
theorem dX8_spread_40 : decode cX8_spread 40 = .ok (.aload_n 0, 1) := by decide +kernel
theorem dX8_spread_41 : decode cX8_spread 41 = .ok (.getfield 39, 3) := by decide +kernel
theorem dX8_spread_44 : decode cX8_spread 44 = .ok (.iload_n 2, 1) := by decide +kernel
theorem dX8_spread_45 : decode cX8_spread 45 = .ok (.dup2, 1) := by decide +kernel
theorem dX8_spread_46 : decode cX8_spread 46 = .ok (.laload, 1) := by decide +kernel
theorem dX8_spread_47 : decode cX8_spread 47 = .ok (.aload_n 0, 1) := by decide +kernel
theorem dX8_spread_48 : decode cX8_spread 48 = .ok (.getfield 33, 3) := by decide +kernel
theorem dX8_spread_51 : decode cX8_spread 51 = .ok (.iload_n 3, 1) := by decide +kernel
theorem dX8_spread_52 : decode cX8_spread 52 = .ok (.laload, 1) := by decide +kernel
theorem dX8_spread_53 : decode cX8_spread 53 = .ok (.lxor, 1) := by decide +kernel
theorem dX8_spread_54 : decode cX8_spread 54 = .ok (.lastore, 1) := by decide +kernel
theorem dX8_spread_55 : decode cX8_spread 55 = .ok (.iinc 3 1, 3) := by decide +kernel
theorem dX8_spread_58 : decode cX8_spread 58 = .ok (.goto (-35), 3) := by decide +kernel
theorem dX8_spread_61 : decode cX8_spread 61 = .ok (.aload_n 0, 1) := by decide +kernel
theorem dX8_spread_62 : decode cX8_spread 62 = .ok (.getfield 42, 3) := by decide +kernel
theorem dX8_spread_65 : decode cX8_spread 65 = .ok (.iload_n 2, 1) := by decide +kernel
theorem dX8_spread_66 : decode cX8_spread 66 = .ok (.aload_n 0, 1) := by decide +kernel
theorem dX8_spread_67 : decode cX8_spread 67 = .ok (.aload_n 0, 1) := by decide +kernel
theorem dX8_spread_68 : decode cX8_spread 68 = .ok (.getfield 39, 3) := by decide +kernel
theorem dX8_spread_71 : decode cX8_spread 71 = .ok (.iload_n 2, 1) := by decide +kernel
theorem dX8_spread_72 : decode cX8_spread 72 = .ok (.laload, 1) := by decide +kernel
theorem dX8_spread_73 : decode cX8_spread 73 = .ok (.invokevirtual 113, 3) := by decide +kernel
theorem dX8_spread_76 : decode cX8_spread 76 = .ok (.lastore, 1) := by decide +kernel
theorem dX8_spread_77 : decode cX8_spread 77 = .ok (.iinc 2 1, 3) := by decide +kernel
theorem dX8_spread_80 : decode cX8_spread 80 = .ok (.goto (-71), 3) := by decide +kernel
theorem dX8_spread_83 : decode cX8_spread 83 = .ok (.iload_n 1, 1) := by decide +kernel
theorem dX8_spread_84 : decode cX8_spread 84 = .ok (.ireturn, 1) := by decide +kernel
theorem dX8_endsAt_0 : decode cX8_endsAt 0 = .ok (.iconst 0, 1) := by decide +kernel
theorem dX8_endsAt_1 : decode cX8_endsAt 1 = .ok (.istore 4, 2) := by decide +kernel
theorem dX8_endsAt_3 : decode cX8_endsAt 3 = .ok (.iconst 0, 1) := by decide +kernel
theorem dX8_endsAt_4 : decode cX8_endsAt 4 = .ok (.istore 5, 2) := by decide +kernel
theorem dX8_endsAt_6 : decode cX8_endsAt 6 = .ok (.iload 5, 2) := by decide +kernel
theorem dX8_endsAt_8 : decode cX8_endsAt 8 = .ok (.aload_n 0, 1) := by decide +kernel
theorem dX8_endsAt_9 : decode cX8_endsAt 9 = .ok (.getfield 61, 3) := by decide +kernel
theorem dX8_endsAt_12 : decode cX8_endsAt 12 = .ok (.if_icmp .ge 65, 3) := by decide +kernel
theorem dX8_endsAt_15 : decode cX8_endsAt 15 = .ok (.lload_n 1, 1) := by decide +kernel
theorem dX8_endsAt_16 : decode cX8_endsAt 16 = .ok (.iload 5, 2) := by decide +kernel
theorem dX8_endsAt_18 : decode cX8_endsAt 18 = .ok (.lshr, 1) := by decide +kernel
theorem dX8_endsAt_19 : decode cX8_endsAt 19 = .ok (.lconst 1, 1) := by decide +kernel
theorem dX8_endsAt_20 : decode cX8_endsAt 20 = .ok (.land, 1) := by decide +kernel
theorem dX8_endsAt_21 : decode cX8_endsAt 21 = .ok (.lconst 0, 1) := by decide +kernel
theorem dX8_endsAt_22 : decode cX8_endsAt 22 = .ok (.lcmp, 1) := by decide +kernel
theorem dX8_endsAt_23 : decode cX8_endsAt 23 = .ok (.ifCond .ne 6, 3) := by decide +kernel
theorem dX8_endsAt_26 : decode cX8_endsAt 26 = .ok (.goto 45, 3) := by decide +kernel
theorem dX8_endsAt_29 : decode cX8_endsAt 29 = .ok (.iload 4, 2) := by decide +kernel
theorem dX8_endsAt_31 : decode cX8_endsAt 31 = .ok (.aload_n 0, 1) := by decide +kernel
theorem dX8_endsAt_32 : decode cX8_endsAt 32 = .ok (.getfield 13, 3) := by decide +kernel
theorem dX8_endsAt_35 : decode cX8_endsAt 35 = .ok (.iload 5, 2) := by decide +kernel
theorem dX8_endsAt_37 : decode cX8_endsAt 37 = .ok (.iaload, 1) := by decide +kernel
theorem dX8_endsAt_38 : decode cX8_endsAt 38 = .ok (.iload_n 3, 1) := by decide +kernel
theorem dX8_endsAt_39 : decode cX8_endsAt 39 = .ok (.if_icmp .ne 7, 3) := by decide +kernel
theorem dX8_endsAt_42 : decode cX8_endsAt 42 = .ok (.iconst 1, 1) := by decide +kernel
theorem dX8_endsAt_43 : decode cX8_endsAt 43 = .ok (.goto 4, 3) := by decide +kernel
theorem dX8_endsAt_46 : decode cX8_endsAt 46 = .ok (.iconst 0, 1) := by decide +kernel
theorem dX8_endsAt_47 : decode cX8_endsAt 47 = .ok (.iadd, 1) := by decide +kernel
theorem dX8_endsAt_48 : decode cX8_endsAt 48 = .ok (.istore 4, 2) := by decide +kernel
theorem dX8_endsAt_50 : decode cX8_endsAt 50 = .ok (.iload 4, 2) := by decide +kernel
theorem dX8_endsAt_52 : decode cX8_endsAt 52 = .ok (.aload_n 0, 1) := by decide +kernel
theorem dX8_endsAt_53 : decode cX8_endsAt 53 = .ok (.getfield 17, 3) := by decide +kernel
theorem dX8_endsAt_56 : decode cX8_endsAt 56 = .ok (.iload 5, 2) := by decide +kernel
theorem dX8_endsAt_58 : decode cX8_endsAt 58 = .ok (.iaload, 1) := by decide +kernel
theorem dX8_endsAt_59 : decode cX8_endsAt 59 = .ok (.iload_n 3, 1) := by decide +kernel
theorem dX8_endsAt_60 : decode cX8_endsAt 60 = .ok (.if_icmp .ne 7, 3) := by decide +kernel
theorem dX8_endsAt_63 : decode cX8_endsAt 63 = .ok (.iconst 1, 1) := by decide +kernel
theorem dX8_endsAt_64 : decode cX8_endsAt 64 = .ok (.goto 4, 3) := by decide +kernel
theorem dX8_endsAt_67 : decode cX8_endsAt 67 = .ok (.iconst 0, 1) := by decide +kernel
theorem dX8_endsAt_68 : decode cX8_endsAt 68 = .ok (.iadd, 1) := by decide +kernel
theorem dX8_endsAt_69 : decode cX8_endsAt 69 = .ok (.istore 4, 2) := by decide +kernel
theorem dX8_endsAt_71 : decode cX8_endsAt 71 = .ok (.iinc 5 1, 3) := by decide +kernel
theorem dX8_endsAt_74 : decode cX8_endsAt 74 = .ok (.goto (-68), 3) := by decide +kernel
theorem dX8_endsAt_77 : decode cX8_endsAt 77 = .ok (.iload 4, 2) := by decide +kernel
theorem dX8_endsAt_79 : decode cX8_endsAt 79 = .ok (.ireturn, 1) := by decide +kernel
set_option maxRecDepth 20000 in
theorem ggX8_isEven_X8_endsAt : GoodIn wsX8_isEven wsX8_endsAt := goodIn_r _ [6, 7, 8, 9, 10, 11, 12, 13, 14, 15, 16, 17, 18, 19, 20, 21, 22, 23, 24, 25, 26, 27, 28, 29] (by decide +kernel) (by decide +kernel)
set_option maxRecDepth 20000 in
theorem gX8_isEven_X8_endsAt : GoodIn wsX8_isEven (wsV RX8 117 RX8 yX8_endsAt wsX8_endsAt) := goodIn_app (goodIn_of _ (by decide +kernel)) ggX8_isEven_X8_endsAt
theorem dX8_isEven_0 : decode cX8_isEven 0 = .ok (.iconst 1, 1) := by decide +kernel
theorem dX8_isEven_1 : decode cX8_isEven 1 = .ok (.istore_n 3, 1) := by decide +kernel
theorem dX8_isEven_2 : decode cX8_isEven 2 = .ok (.iconst 0, 1) := by decide +kernel
theorem dX8_isEven_3 : decode cX8_isEven 3 = .ok (.istore 4, 2) := by decide +kernel
theorem dX8_isEven_5 : decode cX8_isEven 5 = .ok (.iload 4, 2) := by decide +kernel
theorem dX8_isEven_7 : decode cX8_isEven 7 = .ok (.aload_n 0, 1) := by decide +kernel
theorem dX8_isEven_8 : decode cX8_isEven 8 = .ok (.getfield 7, 3) := by decide +kernel
theorem dX8_isEven_11 : decode cX8_isEven 11 = .ok (.if_icmp .ge 31, 3) := by decide +kernel
theorem dX8_isEven_14 : decode cX8_isEven 14 = .ok (.iload_n 3, 1) := by decide +kernel
theorem dX8_isEven_15 : decode cX8_isEven 15 = .ok (.ifCond .eq 19, 3) := by decide +kernel
theorem dX8_isEven_18 : decode cX8_isEven 18 = .ok (.aload_n 0, 1) := by decide +kernel
theorem dX8_isEven_19 : decode cX8_isEven 19 = .ok (.lload_n 1, 1) := by decide +kernel
theorem dX8_isEven_20 : decode cX8_isEven 20 = .ok (.iload 4, 2) := by decide +kernel
theorem dX8_isEven_22 : decode cX8_isEven 22 = .ok (.invokevirtual 117, 3) := by decide +kernel
theorem dX8_isEven_25 : decode cX8_isEven 25 = .ok (.iconst 2, 1) := by decide +kernel
theorem dX8_isEven_26 : decode cX8_isEven 26 = .ok (.irem, 1) := by decide +kernel
theorem dX8_isEven_27 : decode cX8_isEven 27 = .ok (.ifCond .ne 7, 3) := by decide +kernel
theorem dX8_isEven_30 : decode cX8_isEven 30 = .ok (.iconst 1, 1) := by decide +kernel
theorem dX8_isEven_31 : decode cX8_isEven 31 = .ok (.goto 4, 3) := by decide +kernel
theorem dX8_isEven_34 : decode cX8_isEven 34 = .ok (.iconst 0, 1) := by decide +kernel
theorem dX8_isEven_35 : decode cX8_isEven 35 = .ok (.istore_n 3, 1) := by decide +kernel
theorem dX8_isEven_36 : decode cX8_isEven 36 = .ok (.iinc 4 1, 3) := by decide +kernel
theorem dX8_isEven_39 : decode cX8_isEven 39 = .ok (.goto (-34), 3) := by decide +kernel
theorem dX8_isEven_42 : decode cX8_isEven 42 = .ok (.iload_n 3, 1) := by decide +kernel
theorem dX8_isEven_43 : decode cX8_isEven 43 = .ok (.ireturn, 1) := by decide +kernel
set_option maxRecDepth 20000 in
theorem ggX8_isRing_X8_endsAt : GoodIn wsX8_isRing wsX8_endsAt := goodIn_r _ [7, 2, 8, 9, 23, 24, 25, 26, 27, 28, 29, 30, 31, 32, 33, 34, 35, 36, 37, 38, 39, 40, 41, 42] (by decide +kernel) (by decide +kernel)
set_option maxRecDepth 20000 in
theorem gX8_isRing_X8_endsAt : GoodIn wsX8_isRing (wsV RX8 117 RX8 yX8_endsAt wsX8_endsAt) := goodIn_app (goodIn_of _ (by decide +kernel)) ggX8_isRing_X8_endsAt
set_option maxRecDepth 20000 in
theorem ggX8_isRing_X8_beginGroups : GoodIn wsX8_isRing wsX8_beginGroups := goodIn_r _ [13, 14, 15, 16, 23, 24, 25, 26, 27, 28, 29, 30, 31, 32, 33, 34, 35, 36, 37, 38, 39, 40, 41, 42] (by decide +kernel) (by decide +kernel)
set_option maxRecDepth 20000 in
theorem gX8_isRing_X8_beginGroups : GoodIn wsX8_isRing (wsV RX8 67 RX8 yX8_beginGroups wsX8_beginGroups) := goodIn_app (goodIn_of _ (by decide +kernel)) ggX8_isRing_X8_beginGroups
set_option maxRecDepth 20000 in
theorem ggX8_isRing_X8_joins : GoodIn wsX8_isRing wsX8_joins := goodIn_r _ [20, 8, 9, 15, 21, 14, 16, 22, 1, 23, 24, 25, 26, 27, 28, 29, 30, 31, 32, 33, 34, 35, 36, 37, 38, 39, 40, 41, 42] (by decide +kernel) (by decide +kernel)
set_option maxRecDepth 20000 in
theorem gX8_isRing_X8_joins : GoodIn wsX8_isRing (wsV RX8 70 RX8 yX8_joins wsX8_joins) := goodIn_app (goodIn_of _ (by decide +kernel)) ggX8_isRing_X8_joins
theorem dX8_isRing_0 : decode cX8_isRing 0 = .ok (.lload_n 1, 1) := by decide +kernel
theorem dX8_isRing_1 : decode cX8_isRing 1 = .ok (.lconst 0, 1) := by decide +kernel
theorem dX8_isRing_2 : decode cX8_isRing 2 = .ok (.lcmp, 1) := by decide +kernel
theorem dX8_isRing_3 : decode cX8_isRing 3 = .ok (.ifCond .ne 5, 3) := by decide +kernel
theorem dX8_isRing_6 : decode cX8_isRing 6 = .ok (.iconst 0, 1) := by decide +kernel
theorem dX8_isRing_7 : decode cX8_isRing 7 = .ok (.ireturn, 1) := by decide +kernel
theorem dX8_isRing_8 : decode cX8_isRing 8 = .ok (.iconst 1, 1) := by decide +kernel
theorem dX8_isRing_9 : decode cX8_isRing 9 = .ok (.istore_n 3, 1) := by decide +kernel
theorem dX8_isRing_10 : decode cX8_isRing 10 = .ok (.iconst 0, 1) := by decide +kernel
theorem dX8_isRing_11 : decode cX8_isRing 11 = .ok (.istore 4, 2) := by decide +kernel
theorem dX8_isRing_13 : decode cX8_isRing 13 = .ok (.iload 4, 2) := by decide +kernel
theorem dX8_isRing_15 : decode cX8_isRing 15 = .ok (.aload_n 0, 1) := by decide +kernel
theorem dX8_isRing_16 : decode cX8_isRing 16 = .ok (.getfield 7, 3) := by decide +kernel
theorem dX8_isRing_19 : decode cX8_isRing 19 = .ok (.if_icmp .ge 30, 3) := by decide +kernel
theorem dX8_isRing_22 : decode cX8_isRing 22 = .ok (.iload_n 3, 1) := by decide +kernel
theorem dX8_isRing_23 : decode cX8_isRing 23 = .ok (.ifCond .eq 18, 3) := by decide +kernel
theorem dX8_isRing_26 : decode cX8_isRing 26 = .ok (.aload_n 0, 1) := by decide +kernel
theorem dX8_isRing_27 : decode cX8_isRing 27 = .ok (.lload_n 1, 1) := by decide +kernel
theorem dX8_isRing_28 : decode cX8_isRing 28 = .ok (.iload 4, 2) := by decide +kernel
theorem dX8_isRing_30 : decode cX8_isRing 30 = .ok (.invokevirtual 117, 3) := by decide +kernel
theorem dX8_isRing_33 : decode cX8_isRing 33 = .ok (.iconst 2, 1) := by decide +kernel
theorem dX8_isRing_34 : decode cX8_isRing 34 = .ok (.if_icmp .gt 7, 3) := by decide +kernel
theorem dX8_isRing_37 : decode cX8_isRing 37 = .ok (.iconst 1, 1) := by decide +kernel
theorem dX8_isRing_38 : decode cX8_isRing 38 = .ok (.goto 4, 3) := by decide +kernel
theorem dX8_isRing_41 : decode cX8_isRing 41 = .ok (.iconst 0, 1) := by decide +kernel
theorem dX8_isRing_42 : decode cX8_isRing 42 = .ok (.istore_n 3, 1) := by decide +kernel
theorem dX8_isRing_43 : decode cX8_isRing 43 = .ok (.iinc 4 1, 3) := by decide +kernel
theorem dX8_isRing_46 : decode cX8_isRing 46 = .ok (.goto (-33), 3) := by decide +kernel
theorem dX8_isRing_49 : decode cX8_isRing 49 = .ok (.iconst 0, 1) := by decide +kernel
theorem dX8_isRing_50 : decode cX8_isRing 50 = .ok (.istore 4, 2) := by decide +kernel
theorem dX8_isRing_52 : decode cX8_isRing 52 = .ok (.iconst 0, 1) := by decide +kernel
theorem dX8_isRing_53 : decode cX8_isRing 53 = .ok (.istore 5, 2) := by decide +kernel
theorem dX8_isRing_55 : decode cX8_isRing 55 = .ok (.iload 5, 2) := by decide +kernel
theorem dX8_isRing_57 : decode cX8_isRing 57 = .ok (.aload_n 0, 1) := by decide +kernel
theorem dX8_isRing_58 : decode cX8_isRing 58 = .ok (.getfield 61, 3) := by decide +kernel
theorem dX8_isRing_61 : decode cX8_isRing 61 = .ok (.if_icmp .ge 21, 3) := by decide +kernel
theorem dX8_isRing_64 : decode cX8_isRing 64 = .ok (.iload 4, 2) := by decide +kernel
theorem dX8_isRing_66 : decode cX8_isRing 66 = .ok (.lload_n 1, 1) := by decide +kernel
theorem dX8_isRing_67 : decode cX8_isRing 67 = .ok (.iload 5, 2) := by decide +kernel
theorem dX8_isRing_69 : decode cX8_isRing 69 = .ok (.lshr, 1) := by decide +kernel
theorem dX8_isRing_70 : decode cX8_isRing 70 = .ok (.lconst 1, 1) := by decide +kernel
theorem dX8_isRing_71 : decode cX8_isRing 71 = .ok (.land, 1) := by decide +kernel
theorem dX8_isRing_72 : decode cX8_isRing 72 = .ok (.l2i, 1) := by decide +kernel
theorem dX8_isRing_73 : decode cX8_isRing 73 = .ok (.iadd, 1) := by decide +kernel
theorem dX8_isRing_74 : decode cX8_isRing 74 = .ok (.istore 4, 2) := by decide +kernel
theorem dX8_isRing_76 : decode cX8_isRing 76 = .ok (.iinc 5 1, 3) := by decide +kernel
theorem dX8_isRing_79 : decode cX8_isRing 79 = .ok (.goto (-24), 3) := by decide +kernel
theorem dX8_isRing_82 : decode cX8_isRing 82 = .ok (.aload_n 0, 1) := by decide +kernel
theorem dX8_isRing_83 : decode cX8_isRing 83 = .ok (.invokevirtual 67, 3) := by decide +kernel
theorem dX8_isRing_86 : decode cX8_isRing 86 = .ok (.iconst 0, 1) := by decide +kernel
theorem dX8_isRing_87 : decode cX8_isRing 87 = .ok (.istore 5, 2) := by decide +kernel
theorem dX8_isRing_89 : decode cX8_isRing 89 = .ok (.iconst 0, 1) := by decide +kernel
theorem dX8_isRing_90 : decode cX8_isRing 90 = .ok (.istore 6, 2) := by decide +kernel
theorem dX8_isRing_92 : decode cX8_isRing 92 = .ok (.iload 6, 2) := by decide +kernel
theorem dX8_isRing_94 : decode cX8_isRing 94 = .ok (.aload_n 0, 1) := by decide +kernel
theorem dX8_isRing_95 : decode cX8_isRing 95 = .ok (.getfield 61, 3) := by decide +kernel
theorem dX8_isRing_98 : decode cX8_isRing 98 = .ok (.if_icmp .ge 39, 3) := by decide +kernel
theorem dX8_isRing_101 : decode cX8_isRing 101 = .ok (.lload_n 1, 1) := by decide +kernel
theorem dX8_isRing_102 : decode cX8_isRing 102 = .ok (.iload 6, 2) := by decide +kernel
theorem dX8_isRing_104 : decode cX8_isRing 104 = .ok (.lshr, 1) := by decide +kernel
theorem dX8_isRing_105 : decode cX8_isRing 105 = .ok (.lconst 1, 1) := by decide +kernel
theorem dX8_isRing_106 : decode cX8_isRing 106 = .ok (.land, 1) := by decide +kernel
theorem dX8_isRing_107 : decode cX8_isRing 107 = .ok (.lconst 1, 1) := by decide +kernel
theorem dX8_isRing_108 : decode cX8_isRing 108 = .ok (.lcmp, 1) := by decide +kernel
theorem dX8_isRing_109 : decode cX8_isRing 109 = .ok (.ifCond .ne 22, 3) := by decide +kernel
theorem dX8_isRing_112 : decode cX8_isRing 112 = .ok (.iload 5, 2) := by decide +kernel
theorem dX8_isRing_114 : decode cX8_isRing 114 = .ok (.aload_n 0, 1) := by decide +kernel
theorem dX8_isRing_115 : decode cX8_isRing 115 = .ok (.iload 6, 2) := by decide +kernel
theorem dX8_isRing_117 : decode cX8_isRing 117 = .ok (.invokevirtual 70, 3) := by decide +kernel
theorem dX8_isRing_120 : decode cX8_isRing 120 = .ok (.ifCond .eq 7, 3) := by decide +kernel
theorem dX8_isRing_123 : decode cX8_isRing 123 = .ok (.iconst 1, 1) := by decide +kernel
theorem dX8_isRing_124 : decode cX8_isRing 124 = .ok (.goto 4, 3) := by decide +kernel
theorem dX8_isRing_127 : decode cX8_isRing 127 = .ok (.iconst 0, 1) := by decide +kernel
theorem dX8_isRing_128 : decode cX8_isRing 128 = .ok (.iadd, 1) := by decide +kernel
theorem dX8_isRing_129 : decode cX8_isRing 129 = .ok (.istore 5, 2) := by decide +kernel
theorem dX8_isRing_131 : decode cX8_isRing 131 = .ok (.iinc 6 1, 3) := by decide +kernel
theorem dX8_isRing_134 : decode cX8_isRing 134 = .ok (.goto (-42), 3) := by decide +kernel
theorem dX8_isRing_137 : decode cX8_isRing 137 = .ok (.iload_n 3, 1) := by decide +kernel
theorem dX8_isRing_138 : decode cX8_isRing 138 = .ok (.ifCond .eq 16, 3) := by decide +kernel
theorem dX8_isRing_141 : decode cX8_isRing 141 = .ok (.iload 5, 2) := by decide +kernel
theorem dX8_isRing_143 : decode cX8_isRing 143 = .ok (.iload 4, 2) := by decide +kernel
theorem dX8_isRing_145 : decode cX8_isRing 145 = .ok (.iconst 1, 1) := by decide +kernel
theorem dX8_isRing_146 : decode cX8_isRing 146 = .ok (.isub, 1) := by decide +kernel
theorem dX8_isRing_147 : decode cX8_isRing 147 = .ok (.if_icmp .ne 7, 3) := by decide +kernel
theorem dX8_isRing_150 : decode cX8_isRing 150 = .ok (.iconst 1, 1) := by decide +kernel
theorem dX8_isRing_151 : decode cX8_isRing 151 = .ok (.goto 4, 3) := by decide +kernel
theorem dX8_isRing_154 : decode cX8_isRing 154 = .ok (.iconst 0, 1) := by decide +kernel
theorem dX8_isRing_155 : decode cX8_isRing 155 = .ok (.ireturn, 1) := by decide +kernel
set_option maxRecDepth 20000 in
theorem ggX8_isCycle_X8_isSet : GoodIn wsX8_isCycle wsX8_isSet := goodIn_r _ [5, 6, 40, 41, 42, 43, 44, 45, 46, 47, 48, 49, 50, 51, 52, 53, 54, 55, 56, 57, 58, 59] (by decide +kernel) (by decide +kernel)
set_option maxRecDepth 20000 in
theorem gX8_isCycle_X8_isSet : GoodIn wsX8_isCycle (wsV RX8 89 RX8 yX8_isSet wsX8_isSet) := goodIn_app (goodIn_of _ (by decide +kernel)) ggX8_isCycle_X8_isSet
set_option maxRecDepth 20000 in
theorem ggX8_isCycle_X8_throwing : GoodIn wsX8_isCycle wsX8_throwing := goodIn_r _ [10, 11, 40, 41, 42, 43, 44, 45, 46, 47, 48, 49, 50, 51, 52, 53, 54, 55, 56, 57, 58, 59] (by decide +kernel) (by decide +kernel)
set_option maxRecDepth 20000 in
theorem gX8_isCycle_X8_throwing : GoodIn wsX8_isCycle (wsV RX8 78 RX8 yX8_throwing wsX8_throwing) := goodIn_app (goodIn_of _ (by decide +kernel)) ggX8_isCycle_X8_throwing
set_option maxRecDepth 20000 in
theorem ggX8_isCycle_X8_isEven : GoodIn wsX8_isCycle wsX8_isEven := goodIn_r _ [15, 16, 17, 18, 19, 4, 20, 6, 21, 22, 40, 41, 42, 43, 44, 45, 46, 47, 48, 49, 50, 51, 52, 53, 54, 55, 56, 57, 58, 59] (by decide +kernel) (by decide +kernel)
set_option maxRecDepth 20000 in
theorem gX8_isCycle_X8_isEven : GoodIn wsX8_isCycle (wsV RX8 121 RX8 yX8_isEven wsX8_isEven) := goodIn_app (goodIn_of _ (by decide +kernel)) ggX8_isCycle_X8_isEven
set_option maxRecDepth 20000 in
theorem ggX8_isCycle_X8_isRing : GoodIn wsX8_isCycle wsX8_isRing := goodIn_r _ [26, 16, 6, 17, 18, 19, 4, 20, 21, 22, 27, 28, 29, 30, 31, 32, 33, 34, 35, 36, 37, 38, 39, 40, 41, 42, 43, 44, 45, 46, 47, 48, 49, 50, 51, 52, 53, 54, 55, 56, 57, 58, 59] (by decide +kernel) (by decide +kernel)
set_option maxRecDepth 20000 in
theorem gX8_isCycle_X8_isRing : GoodIn wsX8_isCycle (wsV RX8 124 RX8 yX8_isRing wsX8_isRing) := goodIn_app (goodIn_of _ (by decide +kernel)) ggX8_isCycle_X8_isRing
theorem dX8_isCycle_0 : decode cX8_isCycle 0 = .ok (.aload_n 0, 1) := by decide +kernel
theorem dX8_isCycle_1 : decode cX8_isCycle 1 = .ok (.aload_n 0, 1) := by decide +kernel
theorem dX8_isCycle_2 : decode cX8_isCycle 2 = .ok (.lload_n 1, 1) := by decide +kernel
theorem dX8_isCycle_3 : decode cX8_isCycle 3 = .ok (.invokevirtual 89, 3) := by decide +kernel
theorem dX8_isCycle_6 : decode cX8_isCycle 6 = .ok (.ifCond .ne 7, 3) := by decide +kernel
theorem dX8_isCycle_9 : decode cX8_isCycle 9 = .ok (.iconst 1, 1) := by decide +kernel
theorem dX8_isCycle_10 : decode cX8_isCycle 10 = .ok (.goto 4, 3) := by decide +kernel
theorem dX8_isCycle_13 : decode cX8_isCycle 13 = .ok (.iconst 0, 1) := by decide +kernel
theorem dX8_isCycle_14 : decode cX8_isCycle 14 = .ok (.iconst 0, 1) := by decide +kernel
theorem dX8_isCycle_15 : decode cX8_isCycle 15 = .ok (.invokevirtual 78, 3) := by decide +kernel
theorem dX8_isCycle_18 : decode cX8_isCycle 18 = .ok (.ifCond .eq 5, 3) := by decide +kernel
theorem dX8_isCycle_21 : decode cX8_isCycle 21 = .ok (.iconst 0, 1) := by decide +kernel
theorem dX8_isCycle_22 : decode cX8_isCycle 22 = .ok (.ireturn, 1) := by decide +kernel
theorem dX8_isCycle_23 : decode cX8_isCycle 23 = .ok (.aload_n 0, 1) := by decide +kernel
theorem dX8_isCycle_24 : decode cX8_isCycle 24 = .ok (.lload_n 1, 1) := by decide +kernel
theorem dX8_isCycle_25 : decode cX8_isCycle 25 = .ok (.invokevirtual 121, 3) := by decide +kernel
theorem dX8_isCycle_28 : decode cX8_isCycle 28 = .ok (.ifCond .ne 7, 3) := by decide +kernel
theorem dX8_isCycle_31 : decode cX8_isCycle 31 = .ok (.iconst 0, 1) := by decide +kernel
theorem dX8_isCycle_32 : decode cX8_isCycle 32 = .ok (.goto 16, 3) := by decide +kernel
theorem dX8_isCycle_35 : decode cX8_isCycle 35 = .ok (.aload_n 0, 1) := by decide +kernel
theorem dX8_isCycle_36 : decode cX8_isCycle 36 = .ok (.lload_n 1, 1) := by decide +kernel
theorem dX8_isCycle_37 : decode cX8_isCycle 37 = .ok (.invokevirtual 124, 3) := by decide +kernel
theorem dX8_isCycle_40 : decode cX8_isCycle 40 = .ok (.ifCond .eq 7, 3) := by decide +kernel
theorem dX8_isCycle_43 : decode cX8_isCycle 43 = .ok (.iconst 2, 1) := by decide +kernel
theorem dX8_isCycle_44 : decode cX8_isCycle 44 = .ok (.goto 4, 3) := by decide +kernel
theorem dX8_isCycle_47 : decode cX8_isCycle 47 = .ok (.iconst 1, 1) := by decide +kernel
theorem dX8_isCycle_48 : decode cX8_isCycle 48 = .ok (.ireturn, 1) := by decide +kernel
set_option maxRecDepth 20000 in
theorem ggX8_through_X8_throwing : GoodIn wsX8_through wsX8_throwing := goodIn_r _ [9, 10, 44, 45, 46, 47, 48, 49, 50, 51, 52, 53, 54, 55, 56, 57, 58, 59, 60, 61, 62, 63] (by decide +kernel) (by decide +kernel)
set_option maxRecDepth 20000 in
theorem gX8_through_X8_throwing : GoodIn wsX8_through (wsV RX8 78 RX8 yX8_throwing wsX8_throwing) := goodIn_app (goodIn_of _ (by decide +kernel)) ggX8_through_X8_throwing
set_option maxRecDepth 20000 in
theorem ggX8_through_X8_spread : GoodIn wsX8_through wsX8_spread := goodIn_r _ [14, 3, 15, 16, 4, 17, 18, 19, 8, 20, 1, 21, 22, 23, 24, 25, 26, 27, 28, 29, 30, 31, 32, 33, 34, 35, 36, 37, 38, 39, 40, 41, 42, 43, 44, 45, 46, 47, 48, 49, 50, 51, 52, 53, 54, 55, 56, 57, 58, 59, 60, 61, 62, 63] (by decide +kernel) (by decide +kernel)
set_option maxRecDepth 20000 in
theorem gX8_through_X8_spread : GoodIn wsX8_through (wsV RX8 127 RX8 yX8_spread wsX8_spread) := goodIn_app (goodIn_of _ (by decide +kernel)) ggX8_through_X8_spread
theorem dX8_through_0 : decode cX8_through 0 = .ok (.aload_n 0, 1) := by decide +kernel
theorem dX8_through_1 : decode cX8_through 1 = .ok (.iload_n 1, 1) := by decide +kernel
theorem dX8_through_2 : decode cX8_through 2 = .ok (.ifCond .lt 11, 3) := by decide +kernel
theorem dX8_through_5 : decode cX8_through 5 = .ok (.iload_n 1, 1) := by decide +kernel
theorem dX8_through_6 : decode cX8_through 6 = .ok (.aload_n 0, 1) := by decide +kernel
theorem dX8_through_7 : decode cX8_through 7 = .ok (.getfield 61, 3) := by decide +kernel
theorem dX8_through_10 : decode cX8_through 10 = .ok (.if_icmp .lt 7, 3) := by decide +kernel
theorem dX8_through_13 : decode cX8_through 13 = .ok (.iconst 1, 1) := by decide +kernel
theorem dX8_through_14 : decode cX8_through 14 = .ok (.goto 4, 3) := by decide +kernel
theorem dX8_through_17 : decode cX8_through 17 = .ok (.iconst 0, 1) := by decide +kernel
theorem dX8_through_18 : decode cX8_through 18 = .ok (.iconst 0, 1) := by decide +kernel
theorem dX8_through_19 : decode cX8_through 19 = .ok (.invokevirtual 78, 3) := by decide +kernel
theorem dX8_through_22 : decode cX8_through 22 = .ok (.ifCond .eq 5, 3) := by decide +kernel
theorem dX8_through_25 : decode cX8_through 25 = .ok (.lconst 0, 1) := by decide +kernel
theorem dX8_through_26 : decode cX8_through 26 = .ok (.lreturn, 1) := by decide +kernel
theorem dX8_through_27 : decode cX8_through 27 = .ok (.aload_n 0, 1) := by decide +kernel
theorem dX8_through_28 : decode cX8_through 28 = .ok (.invokevirtual 127, 3) := by decide +kernel
theorem dX8_through_31 : decode cX8_through 31 = .ok (.istore_n 2, 1) := by decide +kernel
theorem dX8_through_32 : decode cX8_through 32 = .ok (.ldc2_w 111, 3) := by decide +kernel
theorem dX8_through_35 : decode cX8_through 35 = .ok (.lstore_n 3, 1) := by decide +kernel
theorem dX8_through_36 : decode cX8_through 36 = .ok (.iconst 1, 1) := by decide +kernel
theorem dX8_through_37 : decode cX8_through 37 = .ok (.istore 5, 2) := by decide +kernel
theorem dX8_through_39 : decode cX8_through 39 = .ok (.iload 5, 2) := by decide +kernel
theorem dX8_through_41 : decode cX8_through 41 = .ok (.iload_n 2, 1) := by decide +kernel
theorem dX8_through_42 : decode cX8_through 42 = .ok (.if_icmp .ge 51, 3) := by decide +kernel
theorem dX8_through_45 : decode cX8_through 45 = .ok (.aload_n 0, 1) := by decide +kernel
theorem dX8_through_46 : decode cX8_through 46 = .ok (.getfield 39, 3) := by decide +kernel
theorem dX8_through_49 : decode cX8_through 49 = .ok (.iload 5, 2) := by decide +kernel
theorem dX8_through_51 : decode cX8_through 51 = .ok (.laload, 1) := by decide +kernel
theorem dX8_through_52 : decode cX8_through 52 = .ok (.iload_n 1, 1) := by decide +kernel
theorem dX8_through_53 : decode cX8_through 53 = .ok (.lshr, 1) := by decide +kernel
theorem dX8_through_54 : decode cX8_through 54 = .ok (.lconst 1, 1) := by decide +kernel
theorem dX8_through_55 : decode cX8_through 55 = .ok (.land, 1) := by decide +kernel
theorem dX8_through_56 : decode cX8_through 56 = .ok (.lconst 1, 1) := by decide +kernel
theorem dX8_through_57 : decode cX8_through 57 = .ok (.lcmp, 1) := by decide +kernel
theorem dX8_through_58 : decode cX8_through 58 = .ok (.ifCond .ne 29, 3) := by decide +kernel
theorem dX8_through_61 : decode cX8_through 61 = .ok (.lload_n 3, 1) := by decide +kernel
theorem dX8_through_62 : decode cX8_through 62 = .ok (.lconst 0, 1) := by decide +kernel
theorem dX8_through_63 : decode cX8_through 63 = .ok (.lcmp, 1) := by decide +kernel
theorem dX8_through_64 : decode cX8_through 64 = .ok (.ifCond .lt 15, 3) := by decide +kernel
theorem dX8_through_67 : decode cX8_through 67 = .ok (.aload_n 0, 1) := by decide +kernel
theorem dX8_through_68 : decode cX8_through 68 = .ok (.getfield 42, 3) := by decide +kernel
theorem dX8_through_71 : decode cX8_through 71 = .ok (.iload 5, 2) := by decide +kernel
theorem dX8_through_73 : decode cX8_through 73 = .ok (.laload, 1) := by decide +kernel
theorem dX8_through_74 : decode cX8_through 74 = .ok (.lload_n 3, 1) := by decide +kernel
theorem dX8_through_75 : decode cX8_through 75 = .ok (.lcmp, 1) := by decide +kernel
theorem dX8_through_76 : decode cX8_through 76 = .ok (.ifCond .ge 11, 3) := by decide +kernel
theorem dX8_through_79 : decode cX8_through 79 = .ok (.aload_n 0, 1) := by decide +kernel
theorem dX8_through_80 : decode cX8_through 80 = .ok (.getfield 42, 3) := by decide +kernel
theorem dX8_through_83 : decode cX8_through 83 = .ok (.iload 5, 2) := by decide +kernel
theorem dX8_through_85 : decode cX8_through 85 = .ok (.laload, 1) := by decide +kernel
theorem dX8_through_86 : decode cX8_through 86 = .ok (.lstore_n 3, 1) := by decide +kernel
theorem dX8_through_87 : decode cX8_through 87 = .ok (.iinc 5 1, 3) := by decide +kernel
theorem dX8_through_90 : decode cX8_through 90 = .ok (.goto (-51), 3) := by decide +kernel
theorem dX8_through_93 : decode cX8_through 93 = .ok (.lload_n 3, 1) := by decide +kernel
theorem dX8_through_94 : decode cX8_through 94 = .ok (.lreturn, 1) := by decide +kernel
theorem dX8_rest_0 : decode cX8_rest 0 = .ok (.lload_n 1, 1) := by decide +kernel
theorem dX8_rest_1 : decode cX8_rest 1 = .ok (.lstore_n 3, 1) := by decide +kernel
theorem dX8_rest_2 : decode cX8_rest 2 = .ok (.iconst 0, 1) := by decide +kernel
theorem dX8_rest_3 : decode cX8_rest 3 = .ok (.istore 5, 2) := by decide +kernel
theorem dX8_rest_5 : decode cX8_rest 5 = .ok (.iload 5, 2) := by decide +kernel
theorem dX8_rest_7 : decode cX8_rest 7 = .ok (.aload_n 0, 1) := by decide +kernel
theorem dX8_rest_8 : decode cX8_rest 8 = .ok (.getfield 130, 3) := by decide +kernel
theorem dX8_rest_11 : decode cX8_rest 11 = .ok (.if_icmp .ge 33, 3) := by decide +kernel
theorem dX8_rest_14 : decode cX8_rest 14 = .ok (.lload_n 3, 1) := by decide +kernel
theorem dX8_rest_15 : decode cX8_rest 15 = .ok (.aload_n 0, 1) := by decide +kernel
theorem dX8_rest_16 : decode cX8_rest 16 = .ok (.getfield 45, 3) := by decide +kernel
theorem dX8_rest_19 : decode cX8_rest 19 = .ok (.iload 5, 2) := by decide +kernel
theorem dX8_rest_21 : decode cX8_rest 21 = .ok (.laload, 1) := by decide +kernel
theorem dX8_rest_22 : decode cX8_rest 22 = .ok (.lxor, 1) := by decide +kernel
theorem dX8_rest_23 : decode cX8_rest 23 = .ok (.lload_n 3, 1) := by decide +kernel
theorem dX8_rest_24 : decode cX8_rest 24 = .ok (.lcmp, 1) := by decide +kernel
theorem dX8_rest_25 : decode cX8_rest 25 = .ok (.ifCond .ge 13, 3) := by decide +kernel
theorem dX8_rest_28 : decode cX8_rest 28 = .ok (.lload_n 3, 1) := by decide +kernel
theorem dX8_rest_29 : decode cX8_rest 29 = .ok (.aload_n 0, 1) := by decide +kernel
theorem dX8_rest_30 : decode cX8_rest 30 = .ok (.getfield 45, 3) := by decide +kernel
theorem dX8_rest_33 : decode cX8_rest 33 = .ok (.iload 5, 2) := by decide +kernel
theorem dX8_rest_35 : decode cX8_rest 35 = .ok (.laload, 1) := by decide +kernel
theorem dX8_rest_36 : decode cX8_rest 36 = .ok (.lxor, 1) := by decide +kernel
theorem dX8_rest_37 : decode cX8_rest 37 = .ok (.lstore_n 3, 1) := by decide +kernel
theorem dX8_rest_38 : decode cX8_rest 38 = .ok (.iinc 5 1, 3) := by decide +kernel
theorem dX8_rest_41 : decode cX8_rest 41 = .ok (.goto (-36), 3) := by decide +kernel
theorem dX8_rest_44 : decode cX8_rest 44 = .ok (.lload_n 3, 1) := by decide +kernel
theorem dX8_rest_45 : decode cX8_rest 45 = .ok (.lreturn, 1) := by decide +kernel
set_option maxRecDepth 20000 in
theorem ggX8_take_X8_rest : GoodIn wsX8_take wsX8_rest := goodIn_r _ [7, 1, 2, 8, 9, 10, 11, 12, 13, 14, 15, 16, 17, 18, 19, 20, 21, 22, 23, 24, 25, 26, 27] (by decide +kernel) (by decide +kernel)
set_option maxRecDepth 20000 in
theorem gX8_take_X8_rest : GoodIn wsX8_take (wsV RX8 133 RX8 yX8_rest wsX8_rest) := goodIn_app (goodIn_of _ (by decide +kernel)) ggX8_take_X8_rest
theorem dX8_take_0 : decode cX8_take 0 = .ok (.aload_n 0, 1) := by decide +kernel
theorem dX8_take_1 : decode cX8_take 1 = .ok (.lload_n 1, 1) := by decide +kernel
theorem dX8_take_2 : decode cX8_take 2 = .ok (.invokevirtual 133, 3) := by decide +kernel
theorem dX8_take_5 : decode cX8_take 5 = .ok (.lstore_n 3, 1) := by decide +kernel
theorem dX8_take_6 : decode cX8_take 6 = .ok (.lload_n 3, 1) := by decide +kernel
theorem dX8_take_7 : decode cX8_take 7 = .ok (.lconst 0, 1) := by decide +kernel
theorem dX8_take_8 : decode cX8_take 8 = .ok (.lcmp, 1) := by decide +kernel
theorem dX8_take_9 : decode cX8_take 9 = .ok (.ifCond .ne 5, 3) := by decide +kernel
theorem dX8_take_12 : decode cX8_take 12 = .ok (.iconst 0, 1) := by decide +kernel
theorem dX8_take_13 : decode cX8_take 13 = .ok (.ireturn, 1) := by decide +kernel
theorem dX8_take_14 : decode cX8_take 14 = .ok (.aload_n 0, 1) := by decide +kernel
theorem dX8_take_15 : decode cX8_take 15 = .ok (.getfield 130, 3) := by decide +kernel
theorem dX8_take_18 : decode cX8_take 18 = .ok (.istore 5, 2) := by decide +kernel
theorem dX8_take_20 : decode cX8_take 20 = .ok (.iload 5, 2) := by decide +kernel
theorem dX8_take_22 : decode cX8_take 22 = .ok (.ifCond .le 39, 3) := by decide +kernel
theorem dX8_take_25 : decode cX8_take 25 = .ok (.aload_n 0, 1) := by decide +kernel
theorem dX8_take_26 : decode cX8_take 26 = .ok (.getfield 45, 3) := by decide +kernel
theorem dX8_take_29 : decode cX8_take 29 = .ok (.iload 5, 2) := by decide +kernel
theorem dX8_take_31 : decode cX8_take 31 = .ok (.iconst 1, 1) := by decide +kernel
theorem dX8_take_32 : decode cX8_take 32 = .ok (.isub, 1) := by decide +kernel
theorem dX8_take_33 : decode cX8_take 33 = .ok (.laload, 1) := by decide +kernel
theorem dX8_take_34 : decode cX8_take 34 = .ok (.lload_n 3, 1) := by decide +kernel
theorem dX8_take_35 : decode cX8_take 35 = .ok (.lcmp, 1) := by decide +kernel
theorem dX8_take_36 : decode cX8_take 36 = .ok (.ifCond .ge 25, 3) := by decide +kernel
theorem dX8_take_39 : decode cX8_take 39 = .ok (.aload_n 0, 1) := by decide +kernel
theorem dX8_take_40 : decode cX8_take 40 = .ok (.getfield 45, 3) := by decide +kernel
theorem dX8_take_43 : decode cX8_take 43 = .ok (.iload 5, 2) := by decide +kernel
theorem dX8_take_45 : decode cX8_take 45 = .ok (.aload_n 0, 1) := by decide +kernel
theorem dX8_take_46 : decode cX8_take 46 = .ok (.getfield 45, 3) := by decide +kernel
theorem dX8_take_49 : decode cX8_take 49 = .ok (.iload 5, 2) := by decide +kernel
theorem dX8_take_51 : decode cX8_take 51 = .ok (.iconst 1, 1) := by decide +kernel
theorem dX8_take_52 : decode cX8_take 52 = .ok (.isub, 1) := by decide +kernel
theorem dX8_take_53 : decode cX8_take 53 = .ok (.laload, 1) := by decide +kernel
theorem dX8_take_54 : decode cX8_take 54 = .ok (.lastore, 1) := by decide +kernel
theorem dX8_take_55 : decode cX8_take 55 = .ok (.iinc 5 (-1), 3) := by decide +kernel
theorem dX8_take_58 : decode cX8_take 58 = .ok (.goto (-38), 3) := by decide +kernel
theorem dX8_take_61 : decode cX8_take 61 = .ok (.aload_n 0, 1) := by decide +kernel
theorem dX8_take_62 : decode cX8_take 62 = .ok (.getfield 45, 3) := by decide +kernel
theorem dX8_take_65 : decode cX8_take 65 = .ok (.iload 5, 2) := by decide +kernel
theorem dX8_take_67 : decode cX8_take 67 = .ok (.lload_n 3, 1) := by decide +kernel
theorem dX8_take_68 : decode cX8_take 68 = .ok (.lastore, 1) := by decide +kernel
theorem dX8_take_69 : decode cX8_take 69 = .ok (.aload_n 0, 1) := by decide +kernel
theorem dX8_take_70 : decode cX8_take 70 = .ok (.dup, 1) := by decide +kernel
theorem dX8_take_71 : decode cX8_take 71 = .ok (.getfield 130, 3) := by decide +kernel
theorem dX8_take_74 : decode cX8_take 74 = .ok (.iconst 1, 1) := by decide +kernel
theorem dX8_take_75 : decode cX8_take 75 = .ok (.iadd, 1) := by decide +kernel
theorem dX8_take_76 : decode cX8_take 76 = .ok (.putfield 130, 3) := by decide +kernel
theorem dX8_take_79 : decode cX8_take 79 = .ok (.iconst 1, 1) := by decide +kernel
theorem dX8_take_80 : decode cX8_take 80 = .ok (.ireturn, 1) := by decide +kernel
set_option maxRecDepth 20000 in
theorem ggX8_basis_X8_dimension : GoodIn wsX8_basis wsX8_dimension := goodIn_r _ [7, 8, 9, 10, 11, 12, 6, 13, 14, 15, 16, 17, 18, 19, 20, 21, 22, 23, 24, 25, 26, 27, 28, 53, 54, 55, 56, 57, 58, 59, 60, 61, 62, 63, 64, 65, 66, 67, 68, 69, 70, 71, 72] (by decide +kernel) (by decide +kernel)
set_option maxRecDepth 20000 in
theorem gX8_basis_X8_dimension : GoodIn wsX8_basis (wsV RX8 86 RX8 yX8_dimension wsX8_dimension) := goodIn_app (goodIn_of _ (by decide +kernel)) ggX8_basis_X8_dimension
set_option maxRecDepth 20000 in
theorem ggX8_basis_X8_throwing : GoodIn wsX8_basis wsX8_throwing := goodIn_r _ [32, 33, 53, 54, 55, 56, 57, 58, 59, 60, 61, 62, 63, 64, 65, 66, 67, 68, 69, 70, 71, 72] (by decide +kernel) (by decide +kernel)
set_option maxRecDepth 20000 in
theorem gX8_basis_X8_throwing : GoodIn wsX8_basis (wsV RX8 78 RX8 yX8_throwing wsX8_throwing) := goodIn_app (goodIn_of _ (by decide +kernel)) ggX8_basis_X8_throwing
set_option maxRecDepth 20000 in
theorem ggX8_basis_X8_spread : GoodIn wsX8_basis wsX8_spread := goodIn_r _ [37, 38, 18, 27, 2, 3, 4, 5, 6, 7, 8, 9, 10, 11, 12, 13, 14, 15, 16, 17, 19, 20, 21, 22, 23, 24, 25, 26, 28, 39, 40, 41, 42, 43, 53, 54, 55, 56, 57, 58, 59, 60, 61, 62, 63, 64, 65, 66, 67, 68, 69, 70, 71, 72] (by decide +kernel) (by decide +kernel)
set_option maxRecDepth 20000 in
theorem gX8_basis_X8_spread : GoodIn wsX8_basis (wsV RX8 127 RX8 yX8_spread wsX8_spread) := goodIn_app (goodIn_of _ (by decide +kernel)) ggX8_basis_X8_spread
set_option maxRecDepth 20000 in
theorem ggX8_basis_X8_rest : GoodIn wsX8_basis wsX8_rest := goodIn_r _ [47, 1, 48, 53, 54, 55, 56, 57, 58, 59, 60, 61, 62, 63, 64, 65, 66, 67, 68, 69, 70, 71, 72] (by decide +kernel) (by decide +kernel)
set_option maxRecDepth 20000 in
theorem gX8_basis_X8_rest : GoodIn wsX8_basis (wsV RX8 133 RX8 yX8_rest wsX8_rest) := goodIn_app (goodIn_of _ (by decide +kernel)) ggX8_basis_X8_rest
set_option maxRecDepth 20000 in
theorem ggX8_basis_X8_take : GoodIn wsX8_basis wsX8_take := goodIn_r _ [52, 1, 48, 44, 45, 46, 6, 47, 53, 54, 55, 56, 57, 58, 59, 60, 61, 62, 63, 64, 65, 66, 67, 68, 69, 70, 71, 72] (by decide +kernel) (by decide +kernel)
set_option maxRecDepth 20000 in
theorem gX8_basis_X8_take : GoodIn wsX8_basis (wsV RX8 136 RX8 yX8_take wsX8_take) := goodIn_app (goodIn_of _ (by decide +kernel)) ggX8_basis_X8_take
theorem dX8_basis_0 : decode cX8_basis 0 = .ok (.aload_n 0, 1) := by decide +kernel
theorem dX8_basis_1 : decode cX8_basis 1 = .ok (.invokevirtual 86, 3) := by decide +kernel
theorem dX8_basis_4 : decode cX8_basis 4 = .ok (.istore_n 2, 1) := by decide +kernel
theorem dX8_basis_5 : decode cX8_basis 5 = .ok (.aload_n 0, 1) := by decide +kernel
theorem dX8_basis_6 : decode cX8_basis 6 = .ok (.iload_n 1, 1) := by decide +kernel
theorem dX8_basis_7 : decode cX8_basis 7 = .ok (.ifCond .lt 8, 3) := by decide +kernel
theorem dX8_basis_10 : decode cX8_basis 10 = .ok (.iload_n 1, 1) := by decide +kernel
theorem dX8_basis_11 : decode cX8_basis 11 = .ok (.iload_n 2, 1) := by decide +kernel
theorem dX8_basis_12 : decode cX8_basis 12 = .ok (.if_icmp .lt 7, 3) := by decide +kernel
theorem dX8_basis_15 : decode cX8_basis 15 = .ok (.iconst 1, 1) := by decide +kernel
theorem dX8_basis_16 : decode cX8_basis 16 = .ok (.goto 4, 3) := by decide +kernel
theorem dX8_basis_19 : decode cX8_basis 19 = .ok (.iconst 0, 1) := by decide +kernel
theorem dX8_basis_20 : decode cX8_basis 20 = .ok (.iconst 0, 1) := by decide +kernel
theorem dX8_basis_21 : decode cX8_basis 21 = .ok (.invokevirtual 78, 3) := by decide +kernel
theorem dX8_basis_24 : decode cX8_basis 24 = .ok (.ifCond .eq 5, 3) := by decide +kernel
theorem dX8_basis_27 : decode cX8_basis 27 = .ok (.lconst 0, 1) := by decide +kernel
theorem dX8_basis_28 : decode cX8_basis 28 = .ok (.lreturn, 1) := by decide +kernel
theorem dX8_basis_29 : decode cX8_basis 29 = .ok (.aload_n 0, 1) := by decide +kernel
theorem dX8_basis_30 : decode cX8_basis 30 = .ok (.invokevirtual 127, 3) := by decide +kernel
theorem dX8_basis_33 : decode cX8_basis 33 = .ok (.istore_n 3, 1) := by decide +kernel
theorem dX8_basis_34 : decode cX8_basis 34 = .ok (.aload_n 0, 1) := by decide +kernel
theorem dX8_basis_35 : decode cX8_basis 35 = .ok (.iconst 0, 1) := by decide +kernel
theorem dX8_basis_36 : decode cX8_basis 36 = .ok (.putfield 130, 3) := by decide +kernel
theorem dX8_basis_39 : decode cX8_basis 39 = .ok (.lconst 0, 1) := by decide +kernel
theorem dX8_basis_40 : decode cX8_basis 40 = .ok (.lstore 4, 2) := by decide +kernel
theorem dX8_basis_42 : decode cX8_basis 42 = .ok (.iconst 0, 1) := by decide +kernel
theorem dX8_basis_43 : decode cX8_basis 43 = .ok (.istore 6, 2) := by decide +kernel
theorem dX8_basis_45 : decode cX8_basis 45 = .ok (.iload 6, 2) := by decide +kernel
theorem dX8_basis_47 : decode cX8_basis 47 = .ok (.iload_n 1, 1) := by decide +kernel
theorem dX8_basis_48 : decode cX8_basis 48 = .ok (.if_icmp .gt 83, 3) := by decide +kernel
theorem dX8_basis_51 : decode cX8_basis 51 = .ok (.iconst (-1), 1) := by decide +kernel
theorem dX8_basis_52 : decode cX8_basis 52 = .ok (.istore 7, 2) := by decide +kernel
theorem dX8_basis_54 : decode cX8_basis 54 = .ok (.iconst 1, 1) := by decide +kernel
theorem dX8_basis_55 : decode cX8_basis 55 = .ok (.istore 8, 2) := by decide +kernel
theorem dX8_basis_57 : decode cX8_basis 57 = .ok (.iload 8, 2) := by decide +kernel
theorem dX8_basis_59 : decode cX8_basis 59 = .ok (.iload_n 3, 1) := by decide +kernel
theorem dX8_basis_60 : decode cX8_basis 60 = .ok (.if_icmp .ge 48, 3) := by decide +kernel
theorem dX8_basis_63 : decode cX8_basis 63 = .ok (.iload 7, 2) := by decide +kernel
theorem dX8_basis_65 : decode cX8_basis 65 = .ok (.ifCond .lt 21, 3) := by decide +kernel
theorem dX8_basis_68 : decode cX8_basis 68 = .ok (.aload_n 0, 1) := by decide +kernel
theorem dX8_basis_69 : decode cX8_basis 69 = .ok (.getfield 42, 3) := by decide +kernel
theorem dX8_basis_72 : decode cX8_basis 72 = .ok (.iload 8, 2) := by decide +kernel
theorem dX8_basis_74 : decode cX8_basis 74 = .ok (.laload, 1) := by decide +kernel
theorem dX8_basis_75 : decode cX8_basis 75 = .ok (.aload_n 0, 1) := by decide +kernel
theorem dX8_basis_76 : decode cX8_basis 76 = .ok (.getfield 42, 3) := by decide +kernel
theorem dX8_basis_79 : decode cX8_basis 79 = .ok (.iload 7, 2) := by decide +kernel
theorem dX8_basis_81 : decode cX8_basis 81 = .ok (.laload, 1) := by decide +kernel
theorem dX8_basis_82 : decode cX8_basis 82 = .ok (.lcmp, 1) := by decide +kernel
theorem dX8_basis_83 : decode cX8_basis 83 = .ok (.ifCond .ge 19, 3) := by decide +kernel
theorem dX8_basis_86 : decode cX8_basis 86 = .ok (.aload_n 0, 1) := by decide +kernel
theorem dX8_basis_87 : decode cX8_basis 87 = .ok (.iload 8, 2) := by decide +kernel
theorem dX8_basis_89 : decode cX8_basis 89 = .ok (.i2l, 1) := by decide +kernel
theorem dX8_basis_90 : decode cX8_basis 90 = .ok (.invokevirtual 133, 3) := by decide +kernel
theorem dX8_basis_93 : decode cX8_basis 93 = .ok (.lconst 0, 1) := by decide +kernel
theorem dX8_basis_94 : decode cX8_basis 94 = .ok (.lcmp, 1) := by decide +kernel
theorem dX8_basis_95 : decode cX8_basis 95 = .ok (.ifCond .eq 7, 3) := by decide +kernel
theorem dX8_basis_98 : decode cX8_basis 98 = .ok (.iload 8, 2) := by decide +kernel
theorem dX8_basis_100 : decode cX8_basis 100 = .ok (.istore 7, 2) := by decide +kernel
theorem dX8_basis_102 : decode cX8_basis 102 = .ok (.iinc 8 1, 3) := by decide +kernel
theorem dX8_basis_105 : decode cX8_basis 105 = .ok (.goto (-48), 3) := by decide +kernel
theorem dX8_basis_108 : decode cX8_basis 108 = .ok (.aload_n 0, 1) := by decide +kernel
theorem dX8_basis_109 : decode cX8_basis 109 = .ok (.getfield 42, 3) := by decide +kernel
theorem dX8_basis_112 : decode cX8_basis 112 = .ok (.iload 7, 2) := by decide +kernel
theorem dX8_basis_114 : decode cX8_basis 114 = .ok (.laload, 1) := by decide +kernel
theorem dX8_basis_115 : decode cX8_basis 115 = .ok (.lstore 4, 2) := by decide +kernel
theorem dX8_basis_117 : decode cX8_basis 117 = .ok (.aload_n 0, 1) := by decide +kernel
theorem dX8_basis_118 : decode cX8_basis 118 = .ok (.iload 7, 2) := by decide +kernel
theorem dX8_basis_120 : decode cX8_basis 120 = .ok (.i2l, 1) := by decide +kernel
theorem dX8_basis_121 : decode cX8_basis 121 = .ok (.invokevirtual 136, 3) := by decide +kernel
theorem dX8_basis_124 : decode cX8_basis 124 = .ok (.pop, 1) := by decide +kernel
theorem dX8_basis_125 : decode cX8_basis 125 = .ok (.iinc 6 1, 3) := by decide +kernel
theorem dX8_basis_128 : decode cX8_basis 128 = .ok (.goto (-83), 3) := by decide +kernel
theorem dX8_basis_131 : decode cX8_basis 131 = .ok (.lload 4, 2) := by decide +kernel
theorem dX8_basis_133 : decode cX8_basis 133 = .ok (.lreturn, 1) := by decide +kernel
theorem dX8_numberOf_0 : decode cX8_numberOf 0 = .ok (.iconst 0, 1) := by decide +kernel
theorem dX8_numberOf_1 : decode cX8_numberOf 1 = .ok (.istore_n 3, 1) := by decide +kernel
theorem dX8_numberOf_2 : decode cX8_numberOf 2 = .ok (.iconst 0, 1) := by decide +kernel
theorem dX8_numberOf_3 : decode cX8_numberOf 3 = .ok (.istore 4, 2) := by decide +kernel
theorem dX8_numberOf_5 : decode cX8_numberOf 5 = .ok (.iload 4, 2) := by decide +kernel
theorem dX8_numberOf_7 : decode cX8_numberOf 7 = .ok (.aload_n 0, 1) := by decide +kernel
theorem dX8_numberOf_8 : decode cX8_numberOf 8 = .ok (.getfield 64, 3) := by decide +kernel
theorem dX8_numberOf_11 : decode cX8_numberOf 11 = .ok (.if_icmp .ge 36, 3) := by decide +kernel
theorem dX8_numberOf_14 : decode cX8_numberOf 14 = .ok (.iload_n 3, 1) := by decide +kernel
theorem dX8_numberOf_15 : decode cX8_numberOf 15 = .ok (.lload_n 1, 1) := by decide +kernel
theorem dX8_numberOf_16 : decode cX8_numberOf 16 = .ok (.aload_n 0, 1) := by decide +kernel
theorem dX8_numberOf_17 : decode cX8_numberOf 17 = .ok (.getfield 36, 3) := by decide +kernel
theorem dX8_numberOf_20 : decode cX8_numberOf 20 = .ok (.iload 4, 2) := by decide +kernel
theorem dX8_numberOf_22 : decode cX8_numberOf 22 = .ok (.iaload, 1) := by decide +kernel
theorem dX8_numberOf_23 : decode cX8_numberOf 23 = .ok (.lshr, 1) := by decide +kernel
theorem dX8_numberOf_24 : decode cX8_numberOf 24 = .ok (.lconst 1, 1) := by decide +kernel
theorem dX8_numberOf_25 : decode cX8_numberOf 25 = .ok (.land, 1) := by decide +kernel
theorem dX8_numberOf_26 : decode cX8_numberOf 26 = .ok (.lconst 1, 1) := by decide +kernel
theorem dX8_numberOf_27 : decode cX8_numberOf 27 = .ok (.lcmp, 1) := by decide +kernel
theorem dX8_numberOf_28 : decode cX8_numberOf 28 = .ok (.ifCond .ne 10, 3) := by decide +kernel
theorem dX8_numberOf_31 : decode cX8_numberOf 31 = .ok (.iconst 1, 1) := by decide +kernel
theorem dX8_numberOf_32 : decode cX8_numberOf 32 = .ok (.iload 4, 2) := by decide +kernel
theorem dX8_numberOf_34 : decode cX8_numberOf 34 = .ok (.ishl, 1) := by decide +kernel
theorem dX8_numberOf_35 : decode cX8_numberOf 35 = .ok (.goto 4, 3) := by decide +kernel
theorem dX8_numberOf_38 : decode cX8_numberOf 38 = .ok (.iconst 0, 1) := by decide +kernel
theorem dX8_numberOf_39 : decode cX8_numberOf 39 = .ok (.ior, 1) := by decide +kernel
theorem dX8_numberOf_40 : decode cX8_numberOf 40 = .ok (.istore_n 3, 1) := by decide +kernel
theorem dX8_numberOf_41 : decode cX8_numberOf 41 = .ok (.iinc 4 1, 3) := by decide +kernel
theorem dX8_numberOf_44 : decode cX8_numberOf 44 = .ok (.goto (-39), 3) := by decide +kernel
theorem dX8_numberOf_47 : decode cX8_numberOf 47 = .ok (.iload_n 3, 1) := by decide +kernel
theorem dX8_numberOf_48 : decode cX8_numberOf 48 = .ok (.ireturn, 1) := by decide +kernel
set_option maxRecDepth 20000 in
theorem ggX8_belongs_X8_isSet : GoodIn wsX8_belongs wsX8_isSet := goodIn_r _ [7, 8, 69, 70, 71, 72, 73, 74, 75, 76, 77, 78, 79, 80, 81, 82, 83, 84, 85, 86, 87, 88] (by decide +kernel) (by decide +kernel)
set_option maxRecDepth 20000 in
theorem gX8_belongs_X8_isSet : GoodIn wsX8_belongs (wsV RX8 89 RX8 yX8_isSet wsX8_isSet) := goodIn_app (goodIn_of _ (by decide +kernel)) ggX8_belongs_X8_isSet
set_option maxRecDepth 20000 in
theorem ggX8_belongs_X8_throwing : GoodIn wsX8_belongs wsX8_throwing := goodIn_r _ [12, 13, 69, 70, 71, 72, 73, 74, 75, 76, 77, 78, 79, 80, 81, 82, 83, 84, 85, 86, 87, 88] (by decide +kernel) (by decide +kernel)
set_option maxRecDepth 20000 in
theorem gX8_belongs_X8_throwing : GoodIn wsX8_belongs (wsV RX8 78 RX8 yX8_throwing wsX8_throwing) := goodIn_app (goodIn_of _ (by decide +kernel)) ggX8_belongs_X8_throwing
set_option maxRecDepth 20000 in
theorem ggX8_belongs_X8_isEven : GoodIn wsX8_belongs wsX8_isEven := goodIn_r _ [17, 18, 19, 20, 21, 6, 22, 8, 23, 24, 69, 70, 71, 72, 73, 74, 75, 76, 77, 78, 79, 80, 81, 82, 83, 84, 85, 86, 87, 88] (by decide +kernel) (by decide +kernel)
set_option maxRecDepth 20000 in
theorem gX8_belongs_X8_isEven : GoodIn wsX8_belongs (wsV RX8 121 RX8 yX8_isEven wsX8_isEven) := goodIn_app (goodIn_of _ (by decide +kernel)) ggX8_belongs_X8_isEven
set_option maxRecDepth 20000 in
theorem ggX8_belongs_X8_spread : GoodIn wsX8_belongs wsX8_spread := goodIn_r _ [28, 29, 30, 31, 2, 32, 33, 34, 6, 35, 8, 18, 36, 37, 38, 39, 40, 41, 42, 43, 44, 45, 46, 47, 48, 49, 23, 24, 50, 51, 52, 53, 54, 55, 69, 70, 71, 72, 73, 74, 75, 76, 77, 78, 79, 80, 81, 82, 83, 84, 85, 86, 87, 88] (by decide +kernel) (by decide +kernel)
set_option maxRecDepth 20000 in
theorem gX8_belongs_X8_spread : GoodIn wsX8_belongs (wsV RX8 127 RX8 yX8_spread wsX8_spread) := goodIn_app (goodIn_of _ (by decide +kernel)) ggX8_belongs_X8_spread
set_option maxRecDepth 20000 in
theorem ggX8_belongs_X8_numberOf : GoodIn wsX8_belongs wsX8_numberOf := goodIn_r _ [59, 30, 50, 69, 70, 71, 72, 73, 74, 75, 76, 77, 78, 79, 80, 81, 82, 83, 84, 85, 86, 87, 88] (by decide +kernel) (by decide +kernel)
set_option maxRecDepth 20000 in
theorem gX8_belongs_X8_numberOf : GoodIn wsX8_belongs (wsV RX8 139 RX8 yX8_numberOf wsX8_numberOf) := goodIn_app (goodIn_of _ (by decide +kernel)) ggX8_belongs_X8_numberOf
set_option maxRecDepth 20000 in
theorem ggX8_belongs_X8_take : GoodIn wsX8_belongs wsX8_take := goodIn_r _ [63, 1, 64, 65, 66, 67, 6, 68, 69, 70, 71, 72, 73, 74, 75, 76, 77, 78, 79, 80, 81, 82, 83, 84, 85, 86, 87, 88] (by decide +kernel) (by decide +kernel)
set_option maxRecDepth 20000 in
theorem gX8_belongs_X8_take : GoodIn wsX8_belongs (wsV RX8 136 RX8 yX8_take wsX8_take) := goodIn_app (goodIn_of _ (by decide +kernel)) ggX8_belongs_X8_take
set_option maxRecDepth 20000 in
theorem ggX8_belongs_X8_rest : GoodIn wsX8_belongs wsX8_rest := goodIn_r _ [68, 1, 64, 69, 70, 71, 72, 73, 74, 75, 76, 77, 78, 79, 80, 81, 82, 83, 84, 85, 86, 87, 88] (by decide +kernel) (by decide +kernel)
set_option maxRecDepth 20000 in
theorem gX8_belongs_X8_rest : GoodIn wsX8_belongs (wsV RX8 133 RX8 yX8_rest wsX8_rest) := goodIn_app (goodIn_of _ (by decide +kernel)) ggX8_belongs_X8_rest
theorem dX8_belongs_0 : decode cX8_belongs 0 = .ok (.aload_n 0, 1) := by decide +kernel
theorem dX8_belongs_1 : decode cX8_belongs 1 = .ok (.aload_n 0, 1) := by decide +kernel
theorem dX8_belongs_2 : decode cX8_belongs 2 = .ok (.lload_n 1, 1) := by decide +kernel
theorem dX8_belongs_3 : decode cX8_belongs 3 = .ok (.invokevirtual 89, 3) := by decide +kernel
theorem dX8_belongs_6 : decode cX8_belongs 6 = .ok (.ifCond .ne 7, 3) := by decide +kernel
theorem dX8_belongs_9 : decode cX8_belongs 9 = .ok (.iconst 1, 1) := by decide +kernel
theorem dX8_belongs_10 : decode cX8_belongs 10 = .ok (.goto 4, 3) := by decide +kernel
theorem dX8_belongs_13 : decode cX8_belongs 13 = .ok (.iconst 0, 1) := by decide +kernel
theorem dX8_belongs_14 : decode cX8_belongs 14 = .ok (.iconst 0, 1) := by decide +kernel
theorem dX8_belongs_15 : decode cX8_belongs 15 = .ok (.invokevirtual 78, 3) := by decide +kernel
theorem dX8_belongs_18 : decode cX8_belongs 18 = .ok (.ifCond .eq 5, 3) := by decide +kernel
theorem dX8_belongs_21 : decode cX8_belongs 21 = .ok (.iconst 0, 1) := by decide +kernel
theorem dX8_belongs_22 : decode cX8_belongs 22 = .ok (.ireturn, 1) := by decide +kernel
theorem dX8_belongs_23 : decode cX8_belongs 23 = .ok (.lload_n 1, 1) := by decide +kernel
theorem dX8_belongs_24 : decode cX8_belongs 24 = .ok (.lconst 0, 1) := by decide +kernel
theorem dX8_belongs_25 : decode cX8_belongs 25 = .ok (.lcmp, 1) := by decide +kernel
theorem dX8_belongs_26 : decode cX8_belongs 26 = .ok (.ifCond .eq 11, 3) := by decide +kernel
theorem dX8_belongs_29 : decode cX8_belongs 29 = .ok (.aload_n 0, 1) := by decide +kernel
theorem dX8_belongs_30 : decode cX8_belongs 30 = .ok (.lload_n 1, 1) := by decide +kernel
theorem dX8_belongs_31 : decode cX8_belongs 31 = .ok (.invokevirtual 121, 3) := by decide +kernel
theorem dX8_belongs_34 : decode cX8_belongs 34 = .ok (.ifCond .ne 5, 3) := by decide +kernel
theorem dX8_belongs_37 : decode cX8_belongs 37 = .ok (.iconst 0, 1) := by decide +kernel
theorem dX8_belongs_38 : decode cX8_belongs 38 = .ok (.ireturn, 1) := by decide +kernel
theorem dX8_belongs_39 : decode cX8_belongs 39 = .ok (.aload_n 0, 1) := by decide +kernel
theorem dX8_belongs_40 : decode cX8_belongs 40 = .ok (.invokevirtual 127, 3) := by decide +kernel
theorem dX8_belongs_43 : decode cX8_belongs 43 = .ok (.istore_n 3, 1) := by decide +kernel
theorem dX8_belongs_44 : decode cX8_belongs 44 = .ok (.aload_n 0, 1) := by decide +kernel
theorem dX8_belongs_45 : decode cX8_belongs 45 = .ok (.lload_n 1, 1) := by decide +kernel
theorem dX8_belongs_46 : decode cX8_belongs 46 = .ok (.invokevirtual 139, 3) := by decide +kernel
theorem dX8_belongs_49 : decode cX8_belongs 49 = .ok (.istore 4, 2) := by decide +kernel
theorem dX8_belongs_51 : decode cX8_belongs 51 = .ok (.aload_n 0, 1) := by decide +kernel
theorem dX8_belongs_52 : decode cX8_belongs 52 = .ok (.iconst 0, 1) := by decide +kernel
theorem dX8_belongs_53 : decode cX8_belongs 53 = .ok (.putfield 130, 3) := by decide +kernel
theorem dX8_belongs_56 : decode cX8_belongs 56 = .ok (.iconst 1, 1) := by decide +kernel
theorem dX8_belongs_57 : decode cX8_belongs 57 = .ok (.istore 5, 2) := by decide +kernel
theorem dX8_belongs_59 : decode cX8_belongs 59 = .ok (.iload 5, 2) := by decide +kernel
theorem dX8_belongs_61 : decode cX8_belongs 61 = .ok (.iload_n 3, 1) := by decide +kernel
theorem dX8_belongs_62 : decode cX8_belongs 62 = .ok (.if_icmp .ge 39, 3) := by decide +kernel
theorem dX8_belongs_65 : decode cX8_belongs 65 = .ok (.aload_n 0, 1) := by decide +kernel
theorem dX8_belongs_66 : decode cX8_belongs 66 = .ok (.getfield 42, 3) := by decide +kernel
theorem dX8_belongs_69 : decode cX8_belongs 69 = .ok (.iload 5, 2) := by decide +kernel
theorem dX8_belongs_71 : decode cX8_belongs 71 = .ok (.laload, 1) := by decide +kernel
theorem dX8_belongs_72 : decode cX8_belongs 72 = .ok (.aload_n 0, 1) := by decide +kernel
theorem dX8_belongs_73 : decode cX8_belongs 73 = .ok (.getfield 42, 3) := by decide +kernel
theorem dX8_belongs_76 : decode cX8_belongs 76 = .ok (.iload 4, 2) := by decide +kernel
theorem dX8_belongs_78 : decode cX8_belongs 78 = .ok (.laload, 1) := by decide +kernel
theorem dX8_belongs_79 : decode cX8_belongs 79 = .ok (.lcmp, 1) := by decide +kernel
theorem dX8_belongs_80 : decode cX8_belongs 80 = .ok (.ifCond .lt 6, 3) := by decide +kernel
theorem dX8_belongs_83 : decode cX8_belongs 83 = .ok (.goto 12, 3) := by decide +kernel
theorem dX8_belongs_86 : decode cX8_belongs 86 = .ok (.aload_n 0, 1) := by decide +kernel
theorem dX8_belongs_87 : decode cX8_belongs 87 = .ok (.iload 5, 2) := by decide +kernel
theorem dX8_belongs_89 : decode cX8_belongs 89 = .ok (.i2l, 1) := by decide +kernel
theorem dX8_belongs_90 : decode cX8_belongs 90 = .ok (.invokevirtual 136, 3) := by decide +kernel
theorem dX8_belongs_93 : decode cX8_belongs 93 = .ok (.istore 6, 2) := by decide +kernel
theorem dX8_belongs_95 : decode cX8_belongs 95 = .ok (.iinc 5 1, 3) := by decide +kernel
theorem dX8_belongs_98 : decode cX8_belongs 98 = .ok (.goto (-39), 3) := by decide +kernel
theorem dX8_belongs_101 : decode cX8_belongs 101 = .ok (.aload_n 0, 1) := by decide +kernel
theorem dX8_belongs_102 : decode cX8_belongs 102 = .ok (.iload 4, 2) := by decide +kernel
theorem dX8_belongs_104 : decode cX8_belongs 104 = .ok (.i2l, 1) := by decide +kernel
theorem dX8_belongs_105 : decode cX8_belongs 105 = .ok (.invokevirtual 133, 3) := by decide +kernel
theorem dX8_belongs_108 : decode cX8_belongs 108 = .ok (.lconst 0, 1) := by decide +kernel
theorem dX8_belongs_109 : decode cX8_belongs 109 = .ok (.lcmp, 1) := by decide +kernel
theorem dX8_belongs_110 : decode cX8_belongs 110 = .ok (.ifCond .eq 7, 3) := by decide +kernel
theorem dX8_belongs_113 : decode cX8_belongs 113 = .ok (.iconst 1, 1) := by decide +kernel
theorem dX8_belongs_114 : decode cX8_belongs 114 = .ok (.goto 4, 3) := by decide +kernel
theorem dX8_belongs_117 : decode cX8_belongs 117 = .ok (.iconst 0, 1) := by decide +kernel
theorem dX8_belongs_118 : decode cX8_belongs 118 = .ok (.ireturn, 1) := by decide +kernel
set_option maxRecDepth 20000 in
theorem ggX8_cycles_X8_spread : GoodIn wsX8_cycles wsX8_spread := goodIn_r _ [7, 2, 8, 9, 10, 11, 12, 13, 6, 14, 15, 16, 17, 18, 19, 20, 21, 22, 23, 24, 25, 26, 27, 28, 29, 30, 31, 32, 33, 34, 35, 36, 37, 38, 47, 48, 49, 50, 51, 52, 53, 54, 55, 56, 57, 58, 59, 60, 61, 62, 63, 64, 65, 66] (by decide +kernel) (by decide +kernel)
set_option maxRecDepth 20000 in
theorem gX8_cycles_X8_spread : GoodIn wsX8_cycles (wsV RX8 127 RX8 yX8_spread wsX8_spread) := goodIn_app (goodIn_of _ (by decide +kernel)) ggX8_cycles_X8_spread
set_option maxRecDepth 20000 in
theorem ggX8_cycles_X8_isRing : GoodIn wsX8_cycles wsX8_isRing := goodIn_r _ [42, 16, 15, 43, 44, 45, 6, 46, 31, 32, 21, 22, 23, 24, 8, 25, 26, 27, 28, 29, 30, 9, 33, 47, 48, 49, 50, 51, 52, 53, 54, 55, 56, 57, 58, 59, 60, 61, 62, 63, 64, 65, 66] (by decide +kernel) (by decide +kernel)
set_option maxRecDepth 20000 in
theorem gX8_cycles_X8_isRing : GoodIn wsX8_cycles (wsV RX8 124 RX8 yX8_isRing wsX8_isRing) := goodIn_app (goodIn_of _ (by decide +kernel)) ggX8_cycles_X8_isRing
theorem dX8_cycles_0 : decode cX8_cycles 0 = .ok (.aload_n 0, 1) := by decide +kernel
theorem dX8_cycles_1 : decode cX8_cycles 1 = .ok (.iconst 0, 1) := by decide +kernel
theorem dX8_cycles_2 : decode cX8_cycles 2 = .ok (.putfield 58, 3) := by decide +kernel
theorem dX8_cycles_5 : decode cX8_cycles 5 = .ok (.aload_n 0, 1) := by decide +kernel
theorem dX8_cycles_6 : decode cX8_cycles 6 = .ok (.invokevirtual 127, 3) := by decide +kernel
theorem dX8_cycles_9 : decode cX8_cycles 9 = .ok (.istore_n 1, 1) := by decide +kernel
theorem dX8_cycles_10 : decode cX8_cycles 10 = .ok (.iconst 0, 1) := by decide +kernel
theorem dX8_cycles_11 : decode cX8_cycles 11 = .ok (.istore_n 2, 1) := by decide +kernel
theorem dX8_cycles_12 : decode cX8_cycles 12 = .ok (.iconst 1, 1) := by decide +kernel
theorem dX8_cycles_13 : decode cX8_cycles 13 = .ok (.istore_n 3, 1) := by decide +kernel
theorem dX8_cycles_14 : decode cX8_cycles 14 = .ok (.iload_n 3, 1) := by decide +kernel
theorem dX8_cycles_15 : decode cX8_cycles 15 = .ok (.iload_n 1, 1) := by decide +kernel
theorem dX8_cycles_16 : decode cX8_cycles 16 = .ok (.if_icmp .ge 30, 3) := by decide +kernel
theorem dX8_cycles_19 : decode cX8_cycles 19 = .ok (.iload_n 2, 1) := by decide +kernel
theorem dX8_cycles_20 : decode cX8_cycles 20 = .ok (.aload_n 0, 1) := by decide +kernel
theorem dX8_cycles_21 : decode cX8_cycles 21 = .ok (.aload_n 0, 1) := by decide +kernel
theorem dX8_cycles_22 : decode cX8_cycles 22 = .ok (.getfield 39, 3) := by decide +kernel
theorem dX8_cycles_25 : decode cX8_cycles 25 = .ok (.iload_n 3, 1) := by decide +kernel
theorem dX8_cycles_26 : decode cX8_cycles 26 = .ok (.laload, 1) := by decide +kernel
theorem dX8_cycles_27 : decode cX8_cycles 27 = .ok (.invokevirtual 124, 3) := by decide +kernel
theorem dX8_cycles_30 : decode cX8_cycles 30 = .ok (.ifCond .eq 7, 3) := by decide +kernel
theorem dX8_cycles_33 : decode cX8_cycles 33 = .ok (.iconst 1, 1) := by decide +kernel
theorem dX8_cycles_34 : decode cX8_cycles 34 = .ok (.goto 4, 3) := by decide +kernel
theorem dX8_cycles_37 : decode cX8_cycles 37 = .ok (.iconst 0, 1) := by decide +kernel
theorem dX8_cycles_38 : decode cX8_cycles 38 = .ok (.iadd, 1) := by decide +kernel
theorem dX8_cycles_39 : decode cX8_cycles 39 = .ok (.istore_n 2, 1) := by decide +kernel
theorem dX8_cycles_40 : decode cX8_cycles 40 = .ok (.iinc 3 1, 3) := by decide +kernel
theorem dX8_cycles_43 : decode cX8_cycles 43 = .ok (.goto (-29), 3) := by decide +kernel
theorem dX8_cycles_46 : decode cX8_cycles 46 = .ok (.iload_n 2, 1) := by decide +kernel
theorem dX8_cycles_47 : decode cX8_cycles 47 = .ok (.ireturn, 1) := by decide +kernel
set_option maxRecDepth 20000 in
theorem ggX8_light_X8_spread : GoodIn wsX8_light wsX8_spread := goodIn_r _ [7, 8, 9, 10, 2, 11, 12, 13, 6, 14, 15, 16, 17, 18, 19, 20, 21, 22, 23, 24, 25, 26, 27, 28, 29, 30, 31, 32, 33, 34, 35, 36, 37, 38, 39, 40, 41, 42, 43, 44, 45, 46, 47, 48, 49, 50, 51, 52, 53, 54, 55, 56, 57, 58] (by decide +kernel) (by decide +kernel)
set_option maxRecDepth 20000 in
theorem gX8_light_X8_spread : GoodIn wsX8_light (wsV RX8 127 RX8 yX8_spread wsX8_spread) := goodIn_app (goodIn_of _ (by decide +kernel)) ggX8_light_X8_spread
theorem dX8_light_0 : decode cX8_light 0 = .ok (.aload_n 0, 1) := by decide +kernel
theorem dX8_light_1 : decode cX8_light 1 = .ok (.iconst 0, 1) := by decide +kernel
theorem dX8_light_2 : decode cX8_light 2 = .ok (.putfield 58, 3) := by decide +kernel
theorem dX8_light_5 : decode cX8_light 5 = .ok (.aload_n 0, 1) := by decide +kernel
theorem dX8_light_6 : decode cX8_light 6 = .ok (.invokevirtual 127, 3) := by decide +kernel
theorem dX8_light_9 : decode cX8_light 9 = .ok (.istore_n 3, 1) := by decide +kernel
theorem dX8_light_10 : decode cX8_light 10 = .ok (.iconst 0, 1) := by decide +kernel
theorem dX8_light_11 : decode cX8_light 11 = .ok (.istore 4, 2) := by decide +kernel
theorem dX8_light_13 : decode cX8_light 13 = .ok (.iconst 0, 1) := by decide +kernel
theorem dX8_light_14 : decode cX8_light 14 = .ok (.istore 5, 2) := by decide +kernel
theorem dX8_light_16 : decode cX8_light 16 = .ok (.iload 5, 2) := by decide +kernel
theorem dX8_light_18 : decode cX8_light 18 = .ok (.iload_n 3, 1) := by decide +kernel
theorem dX8_light_19 : decode cX8_light 19 = .ok (.if_icmp .ge 31, 3) := by decide +kernel
theorem dX8_light_22 : decode cX8_light 22 = .ok (.iload 4, 2) := by decide +kernel
theorem dX8_light_24 : decode cX8_light 24 = .ok (.aload_n 0, 1) := by decide +kernel
theorem dX8_light_25 : decode cX8_light 25 = .ok (.getfield 42, 3) := by decide +kernel
theorem dX8_light_28 : decode cX8_light 28 = .ok (.iload 5, 2) := by decide +kernel
theorem dX8_light_30 : decode cX8_light 30 = .ok (.laload, 1) := by decide +kernel
theorem dX8_light_31 : decode cX8_light 31 = .ok (.lload_n 1, 1) := by decide +kernel
theorem dX8_light_32 : decode cX8_light 32 = .ok (.lcmp, 1) := by decide +kernel
theorem dX8_light_33 : decode cX8_light 33 = .ok (.ifCond .gt 7, 3) := by decide +kernel
theorem dX8_light_36 : decode cX8_light 36 = .ok (.iconst 1, 1) := by decide +kernel
theorem dX8_light_37 : decode cX8_light 37 = .ok (.goto 4, 3) := by decide +kernel
theorem dX8_light_40 : decode cX8_light 40 = .ok (.iconst 0, 1) := by decide +kernel
theorem dX8_light_41 : decode cX8_light 41 = .ok (.iadd, 1) := by decide +kernel
theorem dX8_light_42 : decode cX8_light 42 = .ok (.istore 4, 2) := by decide +kernel
theorem dX8_light_44 : decode cX8_light 44 = .ok (.iinc 5 1, 3) := by decide +kernel
theorem dX8_light_47 : decode cX8_light 47 = .ok (.goto (-31), 3) := by decide +kernel
theorem dX8_light_50 : decode cX8_light 50 = .ok (.iload 4, 2) := by decide +kernel
theorem dX8_light_52 : decode cX8_light 52 = .ok (.ireturn, 1) := by decide +kernel
set_option maxRecDepth 20000 in
theorem ggX8_add_X8_throwing : GoodIn wsX8_add wsX8_throwing := goodIn_r _ [7, 8, 9, 10, 11, 12, 13, 14, 15, 16, 17, 18, 19, 20, 21, 22, 23, 24, 25, 26, 27, 28] (by decide +kernel) (by decide +kernel)
set_option maxRecDepth 20000 in
theorem gX8_add_X8_throwing : GoodIn wsX8_add (wsV RX8 78 RX8 yX8_throwing wsX8_throwing) := goodIn_app (goodIn_of _ (by decide +kernel)) ggX8_add_X8_throwing
theorem dX8_add_0 : decode cX8_add 0 = .ok (.aload_n 0, 1) := by decide +kernel
theorem dX8_add_1 : decode cX8_add 1 = .ok (.lload_n 1, 1) := by decide +kernel
theorem dX8_add_2 : decode cX8_add 2 = .ok (.bipush 40, 2) := by decide +kernel
theorem dX8_add_4 : decode cX8_add 4 = .ok (.lushr, 1) := by decide +kernel
theorem dX8_add_5 : decode cX8_add 5 = .ok (.lconst 0, 1) := by decide +kernel
theorem dX8_add_6 : decode cX8_add 6 = .ok (.lcmp, 1) := by decide +kernel
theorem dX8_add_7 : decode cX8_add 7 = .ok (.ifCond .eq 7, 3) := by decide +kernel
theorem dX8_add_10 : decode cX8_add 10 = .ok (.iconst 1, 1) := by decide +kernel
theorem dX8_add_11 : decode cX8_add 11 = .ok (.goto 4, 3) := by decide +kernel
theorem dX8_add_14 : decode cX8_add 14 = .ok (.iconst 0, 1) := by decide +kernel
theorem dX8_add_15 : decode cX8_add 15 = .ok (.aload_n 0, 1) := by decide +kernel
theorem dX8_add_16 : decode cX8_add 16 = .ok (.getfield 143, 3) := by decide +kernel
theorem dX8_add_19 : decode cX8_add 19 = .ok (.bipush 64, 2) := by decide +kernel
theorem dX8_add_21 : decode cX8_add 21 = .ok (.if_icmp .ne 7, 3) := by decide +kernel
theorem dX8_add_24 : decode cX8_add 24 = .ok (.iconst 1, 1) := by decide +kernel
theorem dX8_add_25 : decode cX8_add 25 = .ok (.goto 4, 3) := by decide +kernel
theorem dX8_add_28 : decode cX8_add 28 = .ok (.iconst 0, 1) := by decide +kernel
theorem dX8_add_29 : decode cX8_add 29 = .ok (.invokevirtual 78, 3) := by decide +kernel
theorem dX8_add_32 : decode cX8_add 32 = .ok (.ifCond .eq 5, 3) := by decide +kernel
theorem dX8_add_35 : decode cX8_add 35 = .ok (.iconst 0, 1) := by decide +kernel
theorem dX8_add_36 : decode cX8_add 36 = .ok (.ireturn, 1) := by decide +kernel
theorem dX8_add_37 : decode cX8_add 37 = .ok (.aload_n 0, 1) := by decide +kernel
theorem dX8_add_38 : decode cX8_add 38 = .ok (.getfield 23, 3) := by decide +kernel
theorem dX8_add_41 : decode cX8_add 41 = .ok (.aload_n 0, 1) := by decide +kernel
theorem dX8_add_42 : decode cX8_add 42 = .ok (.getfield 143, 3) := by decide +kernel
theorem dX8_add_45 : decode cX8_add 45 = .ok (.lload_n 1, 1) := by decide +kernel
theorem dX8_add_46 : decode cX8_add 46 = .ok (.lastore, 1) := by decide +kernel
theorem dX8_add_47 : decode cX8_add 47 = .ok (.aload_n 0, 1) := by decide +kernel
theorem dX8_add_48 : decode cX8_add 48 = .ok (.dup, 1) := by decide +kernel
theorem dX8_add_49 : decode cX8_add 49 = .ok (.getfield 143, 3) := by decide +kernel
theorem dX8_add_52 : decode cX8_add 52 = .ok (.iconst 1, 1) := by decide +kernel
theorem dX8_add_53 : decode cX8_add 53 = .ok (.iadd, 1) := by decide +kernel
theorem dX8_add_54 : decode cX8_add 54 = .ok (.putfield 143, 3) := by decide +kernel
theorem dX8_add_57 : decode cX8_add 57 = .ok (.aload_n 0, 1) := by decide +kernel
theorem dX8_add_58 : decode cX8_add 58 = .ok (.getfield 143, 3) := by decide +kernel
theorem dX8_add_61 : decode cX8_add 61 = .ok (.ireturn, 1) := by decide +kernel
theorem dX8_clear_0 : decode cX8_clear 0 = .ok (.aload_n 0, 1) := by decide +kernel
theorem dX8_clear_1 : decode cX8_clear 1 = .ok (.iconst 0, 1) := by decide +kernel
theorem dX8_clear_2 : decode cX8_clear 2 = .ok (.putfield 58, 3) := by decide +kernel
theorem dX8_clear_5 : decode cX8_clear 5 = .ok (.aload_n 0, 1) := by decide +kernel
theorem dX8_clear_6 : decode cX8_clear 6 = .ok (.getfield 143, 3) := by decide +kernel
theorem dX8_clear_9 : decode cX8_clear 9 = .ok (.istore_n 1, 1) := by decide +kernel
theorem dX8_clear_10 : decode cX8_clear 10 = .ok (.aload_n 0, 1) := by decide +kernel
theorem dX8_clear_11 : decode cX8_clear 11 = .ok (.iconst 0, 1) := by decide +kernel
theorem dX8_clear_12 : decode cX8_clear 12 = .ok (.putfield 143, 3) := by decide +kernel
theorem dX8_clear_15 : decode cX8_clear 15 = .ok (.iload_n 1, 1) := by decide +kernel
theorem dX8_clear_16 : decode cX8_clear 16 = .ok (.ireturn, 1) := by decide +kernel
set_option maxRecDepth 20000 in
theorem ggX8_takeList_X8_take : GoodIn wsX8_takeList wsX8_take := goodIn_r _ [8, 1, 9, 10, 11, 12, 7, 13, 14, 15, 16, 17, 18, 19, 20, 21, 22, 23, 24, 25, 26, 27, 28, 29, 30, 31, 32, 33] (by decide +kernel) (by decide +kernel)
set_option maxRecDepth 20000 in
theorem gX8_takeList_X8_take : GoodIn wsX8_takeList (wsV RX8 136 RX8 yX8_take wsX8_take) := goodIn_app (goodIn_of _ (by decide +kernel)) ggX8_takeList_X8_take
theorem dX8_takeList_0 : decode cX8_takeList 0 = .ok (.aload_n 0, 1) := by decide +kernel
theorem dX8_takeList_1 : decode cX8_takeList 1 = .ok (.iconst 0, 1) := by decide +kernel
theorem dX8_takeList_2 : decode cX8_takeList 2 = .ok (.putfield 130, 3) := by decide +kernel
theorem dX8_takeList_5 : decode cX8_takeList 5 = .ok (.iconst 0, 1) := by decide +kernel
theorem dX8_takeList_6 : decode cX8_takeList 6 = .ok (.istore_n 1, 1) := by decide +kernel
theorem dX8_takeList_7 : decode cX8_takeList 7 = .ok (.iload_n 1, 1) := by decide +kernel
theorem dX8_takeList_8 : decode cX8_takeList 8 = .ok (.aload_n 0, 1) := by decide +kernel
theorem dX8_takeList_9 : decode cX8_takeList 9 = .ok (.getfield 143, 3) := by decide +kernel
theorem dX8_takeList_12 : decode cX8_takeList 12 = .ok (.if_icmp .ge 20, 3) := by decide +kernel
theorem dX8_takeList_15 : decode cX8_takeList 15 = .ok (.aload_n 0, 1) := by decide +kernel
theorem dX8_takeList_16 : decode cX8_takeList 16 = .ok (.aload_n 0, 1) := by decide +kernel
theorem dX8_takeList_17 : decode cX8_takeList 17 = .ok (.getfield 23, 3) := by decide +kernel
theorem dX8_takeList_20 : decode cX8_takeList 20 = .ok (.iload_n 1, 1) := by decide +kernel
theorem dX8_takeList_21 : decode cX8_takeList 21 = .ok (.laload, 1) := by decide +kernel
theorem dX8_takeList_22 : decode cX8_takeList 22 = .ok (.invokevirtual 136, 3) := by decide +kernel
theorem dX8_takeList_25 : decode cX8_takeList 25 = .ok (.istore_n 2, 1) := by decide +kernel
theorem dX8_takeList_26 : decode cX8_takeList 26 = .ok (.iinc 1 1, 3) := by decide +kernel
theorem dX8_takeList_29 : decode cX8_takeList 29 = .ok (.goto (-22), 3) := by decide +kernel
theorem dX8_takeList_32 : decode cX8_takeList 32 = .ok (.return_, 1) := by decide +kernel
set_option maxRecDepth 20000 in
theorem ggX8_spans_X8_throwing : GoodIn wsX8_spans wsX8_throwing := goodIn_r _ [5, 6, 23, 24, 25, 26, 27, 28, 29, 30, 31, 32, 33, 34, 35, 36, 37, 38, 39, 40, 41, 42] (by decide +kernel) (by decide +kernel)
set_option maxRecDepth 20000 in
theorem gX8_spans_X8_throwing : GoodIn wsX8_spans (wsV RX8 78 RX8 yX8_throwing wsX8_throwing) := goodIn_app (goodIn_of _ (by decide +kernel)) ggX8_spans_X8_throwing
set_option maxRecDepth 20000 in
theorem ggX8_spans_X8_takeList : GoodIn wsX8_spans wsX8_takeList := goodIn_r _ [10, 11, 12, 13, 14, 15, 16, 4, 17, 18, 19, 20, 21, 22, 23, 24, 25, 26, 27, 28, 29, 30, 31, 32, 33, 34, 35, 36, 37, 38, 39, 40, 41, 42] (by decide +kernel) (by decide +kernel)
set_option maxRecDepth 20000 in
theorem gX8_spans_X8_takeList : GoodIn wsX8_spans (wsV RX8 146 RX8 yX8_takeList wsX8_takeList) := goodIn_app (goodIn_of _ (by decide +kernel)) ggX8_spans_X8_takeList
set_option maxRecDepth 20000 in
theorem ggX8_spans_X8_rest : GoodIn wsX8_spans wsX8_rest := goodIn_r _ [22, 11, 18, 23, 24, 25, 26, 27, 28, 29, 30, 31, 32, 33, 34, 35, 36, 37, 38, 39, 40, 41, 42] (by decide +kernel) (by decide +kernel)
set_option maxRecDepth 20000 in
theorem gX8_spans_X8_rest : GoodIn wsX8_spans (wsV RX8 133 RX8 yX8_rest wsX8_rest) := goodIn_app (goodIn_of _ (by decide +kernel)) ggX8_spans_X8_rest
theorem dX8_spans_0 : decode cX8_spans 0 = .ok (.aload_n 0, 1) := by decide +kernel
theorem dX8_spans_1 : decode cX8_spans 1 = .ok (.lload_n 1, 1) := by decide +kernel
theorem dX8_spans_2 : decode cX8_spans 2 = .ok (.bipush 40, 2) := by decide +kernel
theorem dX8_spans_4 : decode cX8_spans 4 = .ok (.lushr, 1) := by decide +kernel
theorem dX8_spans_5 : decode cX8_spans 5 = .ok (.lconst 0, 1) := by decide +kernel
theorem dX8_spans_6 : decode cX8_spans 6 = .ok (.lcmp, 1) := by decide +kernel
theorem dX8_spans_7 : decode cX8_spans 7 = .ok (.ifCond .eq 7, 3) := by decide +kernel
theorem dX8_spans_10 : decode cX8_spans 10 = .ok (.iconst 1, 1) := by decide +kernel
theorem dX8_spans_11 : decode cX8_spans 11 = .ok (.goto 4, 3) := by decide +kernel
theorem dX8_spans_14 : decode cX8_spans 14 = .ok (.iconst 0, 1) := by decide +kernel
theorem dX8_spans_15 : decode cX8_spans 15 = .ok (.iconst 0, 1) := by decide +kernel
theorem dX8_spans_16 : decode cX8_spans 16 = .ok (.invokevirtual 78, 3) := by decide +kernel
theorem dX8_spans_19 : decode cX8_spans 19 = .ok (.ifCond .eq 5, 3) := by decide +kernel
theorem dX8_spans_22 : decode cX8_spans 22 = .ok (.iconst 0, 1) := by decide +kernel
theorem dX8_spans_23 : decode cX8_spans 23 = .ok (.ireturn, 1) := by decide +kernel
theorem dX8_spans_24 : decode cX8_spans 24 = .ok (.aload_n 0, 1) := by decide +kernel
theorem dX8_spans_25 : decode cX8_spans 25 = .ok (.invokevirtual 146, 3) := by decide +kernel
theorem dX8_spans_28 : decode cX8_spans 28 = .ok (.aload_n 0, 1) := by decide +kernel
theorem dX8_spans_29 : decode cX8_spans 29 = .ok (.lload_n 1, 1) := by decide +kernel
theorem dX8_spans_30 : decode cX8_spans 30 = .ok (.invokevirtual 133, 3) := by decide +kernel
theorem dX8_spans_33 : decode cX8_spans 33 = .ok (.lconst 0, 1) := by decide +kernel
theorem dX8_spans_34 : decode cX8_spans 34 = .ok (.lcmp, 1) := by decide +kernel
theorem dX8_spans_35 : decode cX8_spans 35 = .ok (.ifCond .ne 7, 3) := by decide +kernel
theorem dX8_spans_38 : decode cX8_spans 38 = .ok (.iconst 1, 1) := by decide +kernel
theorem dX8_spans_39 : decode cX8_spans 39 = .ok (.goto 4, 3) := by decide +kernel
theorem dX8_spans_42 : decode cX8_spans 42 = .ok (.iconst 0, 1) := by decide +kernel
theorem dX8_spans_43 : decode cX8_spans 43 = .ok (.ireturn, 1) := by decide +kernel
set_option maxRecDepth 20000 in
theorem ggX8_alone_X8_groups : GoodIn wsX8_alone wsX8_groups := goodIn_r _ [7, 2, 1, 8, 9, 10, 6, 11, 12, 13, 14, 15, 16, 17, 18, 19, 20, 21, 22, 23, 24, 25, 26, 27, 28, 29, 30, 31, 32, 33, 34, 35, 36, 37, 38, 39, 40, 41, 42] (by decide +kernel) (by decide +kernel)
set_option maxRecDepth 20000 in
theorem gX8_alone_X8_groups : GoodIn wsX8_alone (wsV RX8 74 RX8 yX8_groups wsX8_groups) := goodIn_app (goodIn_of _ (by decide +kernel)) ggX8_alone_X8_groups
set_option maxRecDepth 20000 in
theorem ggX8_alone_X8_beginGroups : GoodIn wsX8_alone wsX8_beginGroups := goodIn_r _ [11, 12, 13, 14, 23, 24, 25, 26, 27, 28, 29, 30, 31, 32, 33, 34, 35, 36, 37, 38, 39, 40, 41, 42] (by decide +kernel) (by decide +kernel)
set_option maxRecDepth 20000 in
theorem gX8_alone_X8_beginGroups : GoodIn wsX8_alone (wsV RX8 67 RX8 yX8_beginGroups wsX8_beginGroups) := goodIn_app (goodIn_of _ (by decide +kernel)) ggX8_alone_X8_beginGroups
set_option maxRecDepth 20000 in
theorem ggX8_alone_X8_joins : GoodIn wsX8_alone wsX8_joins := goodIn_r _ [18, 19, 20, 13, 21, 12, 14, 22, 2, 23, 24, 25, 26, 27, 28, 29, 30, 31, 32, 33, 34, 35, 36, 37, 38, 39, 40, 41, 42] (by decide +kernel) (by decide +kernel)
set_option maxRecDepth 20000 in
theorem gX8_alone_X8_joins : GoodIn wsX8_alone (wsV RX8 70 RX8 yX8_joins wsX8_joins) := goodIn_app (goodIn_of _ (by decide +kernel)) ggX8_alone_X8_joins
theorem dX8_alone_0 : decode cX8_alone 0 = .ok (.iconst 0, 1) := by decide +kernel
theorem dX8_alone_1 : decode cX8_alone 1 = .ok (.istore_n 1, 1) := by decide +kernel
theorem dX8_alone_2 : decode cX8_alone 2 = .ok (.aload_n 0, 1) := by decide +kernel
theorem dX8_alone_3 : decode cX8_alone 3 = .ok (.invokevirtual 74, 3) := by decide +kernel
theorem dX8_alone_6 : decode cX8_alone 6 = .ok (.istore_n 2, 1) := by decide +kernel
theorem dX8_alone_7 : decode cX8_alone 7 = .ok (.iconst 0, 1) := by decide +kernel
theorem dX8_alone_8 : decode cX8_alone 8 = .ok (.istore_n 3, 1) := by decide +kernel
theorem dX8_alone_9 : decode cX8_alone 9 = .ok (.iload_n 3, 1) := by decide +kernel
theorem dX8_alone_10 : decode cX8_alone 10 = .ok (.aload_n 0, 1) := by decide +kernel
theorem dX8_alone_11 : decode cX8_alone 11 = .ok (.getfield 61, 3) := by decide +kernel
theorem dX8_alone_14 : decode cX8_alone 14 = .ok (.if_icmp .ge 76, 3) := by decide +kernel
theorem dX8_alone_17 : decode cX8_alone 17 = .ok (.aload_n 0, 1) := by decide +kernel
theorem dX8_alone_18 : decode cX8_alone 18 = .ok (.invokevirtual 67, 3) := by decide +kernel
theorem dX8_alone_21 : decode cX8_alone 21 = .ok (.aload_n 0, 1) := by decide +kernel
theorem dX8_alone_22 : decode cX8_alone 22 = .ok (.getfield 7, 3) := by decide +kernel
theorem dX8_alone_25 : decode cX8_alone 25 = .ok (.istore 4, 2) := by decide +kernel
theorem dX8_alone_27 : decode cX8_alone 27 = .ok (.iconst 0, 1) := by decide +kernel
theorem dX8_alone_28 : decode cX8_alone 28 = .ok (.istore 5, 2) := by decide +kernel
theorem dX8_alone_30 : decode cX8_alone 30 = .ok (.iload 5, 2) := by decide +kernel
theorem dX8_alone_32 : decode cX8_alone 32 = .ok (.aload_n 0, 1) := by decide +kernel
theorem dX8_alone_33 : decode cX8_alone 33 = .ok (.getfield 61, 3) := by decide +kernel
theorem dX8_alone_36 : decode cX8_alone 36 = .ok (.if_icmp .ge 34, 3) := by decide +kernel
theorem dX8_alone_39 : decode cX8_alone 39 = .ok (.iload 5, 2) := by decide +kernel
theorem dX8_alone_41 : decode cX8_alone 41 = .ok (.iload_n 3, 1) := by decide +kernel
theorem dX8_alone_42 : decode cX8_alone 42 = .ok (.if_icmp .eq 22, 3) := by decide +kernel
theorem dX8_alone_45 : decode cX8_alone 45 = .ok (.iload 4, 2) := by decide +kernel
theorem dX8_alone_47 : decode cX8_alone 47 = .ok (.aload_n 0, 1) := by decide +kernel
theorem dX8_alone_48 : decode cX8_alone 48 = .ok (.iload 5, 2) := by decide +kernel
theorem dX8_alone_50 : decode cX8_alone 50 = .ok (.invokevirtual 70, 3) := by decide +kernel
theorem dX8_alone_53 : decode cX8_alone 53 = .ok (.ifCond .eq 7, 3) := by decide +kernel
theorem dX8_alone_56 : decode cX8_alone 56 = .ok (.iconst 1, 1) := by decide +kernel
theorem dX8_alone_57 : decode cX8_alone 57 = .ok (.goto 4, 3) := by decide +kernel
theorem dX8_alone_60 : decode cX8_alone 60 = .ok (.iconst 0, 1) := by decide +kernel
theorem dX8_alone_61 : decode cX8_alone 61 = .ok (.isub, 1) := by decide +kernel
theorem dX8_alone_62 : decode cX8_alone 62 = .ok (.istore 4, 2) := by decide +kernel
theorem dX8_alone_64 : decode cX8_alone 64 = .ok (.iinc 5 1, 3) := by decide +kernel
theorem dX8_alone_67 : decode cX8_alone 67 = .ok (.goto (-37), 3) := by decide +kernel
theorem dX8_alone_70 : decode cX8_alone 70 = .ok (.iload_n 1, 1) := by decide +kernel
theorem dX8_alone_71 : decode cX8_alone 71 = .ok (.iload 4, 2) := by decide +kernel
theorem dX8_alone_73 : decode cX8_alone 73 = .ok (.iload_n 2, 1) := by decide +kernel
theorem dX8_alone_74 : decode cX8_alone 74 = .ok (.if_icmp .le 7, 3) := by decide +kernel
theorem dX8_alone_77 : decode cX8_alone 77 = .ok (.iconst 1, 1) := by decide +kernel
theorem dX8_alone_78 : decode cX8_alone 78 = .ok (.goto 4, 3) := by decide +kernel
theorem dX8_alone_81 : decode cX8_alone 81 = .ok (.iconst 0, 1) := by decide +kernel
theorem dX8_alone_82 : decode cX8_alone 82 = .ok (.iadd, 1) := by decide +kernel
theorem dX8_alone_83 : decode cX8_alone 83 = .ok (.istore_n 1, 1) := by decide +kernel
theorem dX8_alone_84 : decode cX8_alone 84 = .ok (.iinc 3 1, 3) := by decide +kernel
theorem dX8_alone_87 : decode cX8_alone 87 = .ok (.goto (-78), 3) := by decide +kernel
theorem dX8_alone_90 : decode cX8_alone 90 = .ok (.iload_n 1, 1) := by decide +kernel
theorem dX8_alone_91 : decode cX8_alone 91 = .ok (.ireturn, 1) := by decide +kernel
set_option maxRecDepth 20000 in
theorem ggX8_areEven_X8_groups : GoodIn wsX8_areEven wsX8_groups := goodIn_r _ [8, 9, 2, 10, 11, 12, 7, 13, 1, 14, 15, 16, 17, 18, 19, 20, 21, 3, 22, 23, 24, 25, 26, 27, 28, 29, 30, 31, 32, 33, 34, 35, 36, 37, 38, 39, 40, 41, 42] (by decide +kernel) (by decide +kernel)
set_option maxRecDepth 20000 in
theorem gX8_areEven_X8_groups : GoodIn wsX8_areEven (wsV RX8 74 RX8 yX8_groups wsX8_groups) := goodIn_app (goodIn_of _ (by decide +kernel)) ggX8_areEven_X8_groups
theorem dX8_areEven_0 : decode cX8_areEven 0 = .ok (.aload_n 0, 1) := by decide +kernel
theorem dX8_areEven_1 : decode cX8_areEven 1 = .ok (.invokevirtual 74, 3) := by decide +kernel
theorem dX8_areEven_4 : decode cX8_areEven 4 = .ok (.istore_n 1, 1) := by decide +kernel
theorem dX8_areEven_5 : decode cX8_areEven 5 = .ok (.iload_n 1, 1) := by decide +kernel
theorem dX8_areEven_6 : decode cX8_areEven 6 = .ok (.ifCond .le 7, 3) := by decide +kernel
theorem dX8_areEven_9 : decode cX8_areEven 9 = .ok (.iconst 1, 1) := by decide +kernel
theorem dX8_areEven_10 : decode cX8_areEven 10 = .ok (.goto 4, 3) := by decide +kernel
theorem dX8_areEven_13 : decode cX8_areEven 13 = .ok (.iconst 0, 1) := by decide +kernel
theorem dX8_areEven_14 : decode cX8_areEven 14 = .ok (.istore_n 2, 1) := by decide +kernel
theorem dX8_areEven_15 : decode cX8_areEven 15 = .ok (.iconst 0, 1) := by decide +kernel
theorem dX8_areEven_16 : decode cX8_areEven 16 = .ok (.istore_n 3, 1) := by decide +kernel
theorem dX8_areEven_17 : decode cX8_areEven 17 = .ok (.iload_n 3, 1) := by decide +kernel
theorem dX8_areEven_18 : decode cX8_areEven 18 = .ok (.aload_n 0, 1) := by decide +kernel
theorem dX8_areEven_19 : decode cX8_areEven 19 = .ok (.getfield 64, 3) := by decide +kernel
theorem dX8_areEven_22 : decode cX8_areEven 22 = .ok (.if_icmp .ge 64, 3) := by decide +kernel
theorem dX8_areEven_25 : decode cX8_areEven 25 = .ok (.iconst 0, 1) := by decide +kernel
theorem dX8_areEven_26 : decode cX8_areEven 26 = .ok (.istore 4, 2) := by decide +kernel
theorem dX8_areEven_28 : decode cX8_areEven 28 = .ok (.iconst 0, 1) := by decide +kernel
theorem dX8_areEven_29 : decode cX8_areEven 29 = .ok (.istore 5, 2) := by decide +kernel
theorem dX8_areEven_31 : decode cX8_areEven 31 = .ok (.iload 5, 2) := by decide +kernel
theorem dX8_areEven_33 : decode cX8_areEven 33 = .ok (.aload_n 0, 1) := by decide +kernel
theorem dX8_areEven_34 : decode cX8_areEven 34 = .ok (.getfield 61, 3) := by decide +kernel
theorem dX8_areEven_37 : decode cX8_areEven 37 = .ok (.if_icmp .ge 26, 3) := by decide +kernel
theorem dX8_areEven_40 : decode cX8_areEven 40 = .ok (.iload 4, 2) := by decide +kernel
theorem dX8_areEven_42 : decode cX8_areEven 42 = .ok (.aload_n 0, 1) := by decide +kernel
theorem dX8_areEven_43 : decode cX8_areEven 43 = .ok (.getfield 33, 3) := by decide +kernel
theorem dX8_areEven_46 : decode cX8_areEven 46 = .ok (.iload_n 3, 1) := by decide +kernel
theorem dX8_areEven_47 : decode cX8_areEven 47 = .ok (.laload, 1) := by decide +kernel
theorem dX8_areEven_48 : decode cX8_areEven 48 = .ok (.iload 5, 2) := by decide +kernel
theorem dX8_areEven_50 : decode cX8_areEven 50 = .ok (.lshr, 1) := by decide +kernel
theorem dX8_areEven_51 : decode cX8_areEven 51 = .ok (.lconst 1, 1) := by decide +kernel
theorem dX8_areEven_52 : decode cX8_areEven 52 = .ok (.land, 1) := by decide +kernel
theorem dX8_areEven_53 : decode cX8_areEven 53 = .ok (.l2i, 1) := by decide +kernel
theorem dX8_areEven_54 : decode cX8_areEven 54 = .ok (.iadd, 1) := by decide +kernel
theorem dX8_areEven_55 : decode cX8_areEven 55 = .ok (.istore 4, 2) := by decide +kernel
theorem dX8_areEven_57 : decode cX8_areEven 57 = .ok (.iinc 5 1, 3) := by decide +kernel
theorem dX8_areEven_60 : decode cX8_areEven 60 = .ok (.goto (-29), 3) := by decide +kernel
theorem dX8_areEven_63 : decode cX8_areEven 63 = .ok (.iload_n 2, 1) := by decide +kernel
theorem dX8_areEven_64 : decode cX8_areEven 64 = .ok (.ifCond .eq 14, 3) := by decide +kernel
theorem dX8_areEven_67 : decode cX8_areEven 67 = .ok (.iload 4, 2) := by decide +kernel
theorem dX8_areEven_69 : decode cX8_areEven 69 = .ok (.iconst 2, 1) := by decide +kernel
theorem dX8_areEven_70 : decode cX8_areEven 70 = .ok (.irem, 1) := by decide +kernel
theorem dX8_areEven_71 : decode cX8_areEven 71 = .ok (.ifCond .ne 7, 3) := by decide +kernel
theorem dX8_areEven_74 : decode cX8_areEven 74 = .ok (.iconst 1, 1) := by decide +kernel
theorem dX8_areEven_75 : decode cX8_areEven 75 = .ok (.goto 4, 3) := by decide +kernel
theorem dX8_areEven_78 : decode cX8_areEven 78 = .ok (.iconst 0, 1) := by decide +kernel
theorem dX8_areEven_79 : decode cX8_areEven 79 = .ok (.istore_n 2, 1) := by decide +kernel
theorem dX8_areEven_80 : decode cX8_areEven 80 = .ok (.iinc 3 1, 3) := by decide +kernel
theorem dX8_areEven_83 : decode cX8_areEven 83 = .ok (.goto (-66), 3) := by decide +kernel
theorem dX8_areEven_86 : decode cX8_areEven 86 = .ok (.iload_n 2, 1) := by decide +kernel
theorem dX8_areEven_87 : decode cX8_areEven 87 = .ok (.ireturn, 1) := by decide +kernel
set_option maxRecDepth 20000 in
theorem ggX8_parting_X8_groups : GoodIn wsX8_parting wsX8_groups := goodIn_r _ [9, 1, 2, 10, 11, 12, 8, 13, 14, 15, 16, 17, 18, 19, 20, 3, 4, 21, 22, 23, 24, 25, 26, 27, 28, 29, 30, 31, 32, 33, 34, 35, 36, 37, 38, 39, 40, 41, 42] (by decide +kernel) (by decide +kernel)
set_option maxRecDepth 20000 in
theorem gX8_parting_X8_groups : GoodIn wsX8_parting (wsV RX8 74 RX8 yX8_groups wsX8_groups) := goodIn_app (goodIn_of _ (by decide +kernel)) ggX8_parting_X8_groups
set_option maxRecDepth 20000 in
theorem ggX8_parting_X8_beginGroups : GoodIn wsX8_parting wsX8_beginGroups := goodIn_r _ [13, 14, 15, 16, 23, 24, 25, 26, 27, 28, 29, 30, 31, 32, 33, 34, 35, 36, 37, 38, 39, 40, 41, 42] (by decide +kernel) (by decide +kernel)
set_option maxRecDepth 20000 in
theorem gX8_parting_X8_beginGroups : GoodIn wsX8_parting (wsV RX8 67 RX8 yX8_beginGroups wsX8_beginGroups) := goodIn_app (goodIn_of _ (by decide +kernel)) ggX8_parting_X8_beginGroups
set_option maxRecDepth 20000 in
theorem ggX8_parting_X8_joins : GoodIn wsX8_parting wsX8_joins := goodIn_r _ [20, 3, 4, 15, 21, 14, 16, 22, 1, 23, 24, 25, 26, 27, 28, 29, 30, 31, 32, 33, 34, 35, 36, 37, 38, 39, 40, 41, 42] (by decide +kernel) (by decide +kernel)
set_option maxRecDepth 20000 in
theorem gX8_parting_X8_joins : GoodIn wsX8_parting (wsV RX8 70 RX8 yX8_joins wsX8_joins) := goodIn_app (goodIn_of _ (by decide +kernel)) ggX8_parting_X8_joins
theorem dX8_parting_0 : decode cX8_parting 0 = .ok (.iconst 0, 1) := by decide +kernel
theorem dX8_parting_1 : decode cX8_parting 1 = .ok (.istore_n 1, 1) := by decide +kernel
theorem dX8_parting_2 : decode cX8_parting 2 = .ok (.aload_n 0, 1) := by decide +kernel
theorem dX8_parting_3 : decode cX8_parting 3 = .ok (.invokevirtual 74, 3) := by decide +kernel
theorem dX8_parting_6 : decode cX8_parting 6 = .ok (.istore_n 2, 1) := by decide +kernel
theorem dX8_parting_7 : decode cX8_parting 7 = .ok (.iconst 0, 1) := by decide +kernel
theorem dX8_parting_8 : decode cX8_parting 8 = .ok (.istore_n 3, 1) := by decide +kernel
theorem dX8_parting_9 : decode cX8_parting 9 = .ok (.iload_n 3, 1) := by decide +kernel
theorem dX8_parting_10 : decode cX8_parting 10 = .ok (.aload_n 0, 1) := by decide +kernel
theorem dX8_parting_11 : decode cX8_parting 11 = .ok (.getfield 7, 3) := by decide +kernel
theorem dX8_parting_14 : decode cX8_parting 14 = .ok (.if_icmp .ge 94, 3) := by decide +kernel
theorem dX8_parting_17 : decode cX8_parting 17 = .ok (.aload_n 0, 1) := by decide +kernel
theorem dX8_parting_18 : decode cX8_parting 18 = .ok (.invokevirtual 67, 3) := by decide +kernel
theorem dX8_parting_21 : decode cX8_parting 21 = .ok (.aload_n 0, 1) := by decide +kernel
theorem dX8_parting_22 : decode cX8_parting 22 = .ok (.getfield 7, 3) := by decide +kernel
theorem dX8_parting_25 : decode cX8_parting 25 = .ok (.iconst 1, 1) := by decide +kernel
theorem dX8_parting_26 : decode cX8_parting 26 = .ok (.isub, 1) := by decide +kernel
theorem dX8_parting_27 : decode cX8_parting 27 = .ok (.istore 4, 2) := by decide +kernel
theorem dX8_parting_29 : decode cX8_parting 29 = .ok (.iconst 0, 1) := by decide +kernel
theorem dX8_parting_30 : decode cX8_parting 30 = .ok (.istore 5, 2) := by decide +kernel
theorem dX8_parting_32 : decode cX8_parting 32 = .ok (.iload 5, 2) := by decide +kernel
theorem dX8_parting_34 : decode cX8_parting 34 = .ok (.aload_n 0, 1) := by decide +kernel
theorem dX8_parting_35 : decode cX8_parting 35 = .ok (.getfield 61, 3) := by decide +kernel
theorem dX8_parting_38 : decode cX8_parting 38 = .ok (.if_icmp .ge 50, 3) := by decide +kernel
theorem dX8_parting_41 : decode cX8_parting 41 = .ok (.aload_n 0, 1) := by decide +kernel
theorem dX8_parting_42 : decode cX8_parting 42 = .ok (.getfield 13, 3) := by decide +kernel
theorem dX8_parting_45 : decode cX8_parting 45 = .ok (.iload 5, 2) := by decide +kernel
theorem dX8_parting_47 : decode cX8_parting 47 = .ok (.iaload, 1) := by decide +kernel
theorem dX8_parting_48 : decode cX8_parting 48 = .ok (.iload_n 3, 1) := by decide +kernel
theorem dX8_parting_49 : decode cX8_parting 49 = .ok (.if_icmp .eq 33, 3) := by decide +kernel
theorem dX8_parting_52 : decode cX8_parting 52 = .ok (.aload_n 0, 1) := by decide +kernel
theorem dX8_parting_53 : decode cX8_parting 53 = .ok (.getfield 17, 3) := by decide +kernel
theorem dX8_parting_56 : decode cX8_parting 56 = .ok (.iload 5, 2) := by decide +kernel
theorem dX8_parting_58 : decode cX8_parting 58 = .ok (.iaload, 1) := by decide +kernel
theorem dX8_parting_59 : decode cX8_parting 59 = .ok (.iload_n 3, 1) := by decide +kernel
theorem dX8_parting_60 : decode cX8_parting 60 = .ok (.if_icmp .eq 22, 3) := by decide +kernel
theorem dX8_parting_63 : decode cX8_parting 63 = .ok (.iload 4, 2) := by decide +kernel
theorem dX8_parting_65 : decode cX8_parting 65 = .ok (.aload_n 0, 1) := by decide +kernel
theorem dX8_parting_66 : decode cX8_parting 66 = .ok (.iload 5, 2) := by decide +kernel
theorem dX8_parting_68 : decode cX8_parting 68 = .ok (.invokevirtual 70, 3) := by decide +kernel
theorem dX8_parting_71 : decode cX8_parting 71 = .ok (.ifCond .eq 7, 3) := by decide +kernel
theorem dX8_parting_74 : decode cX8_parting 74 = .ok (.iconst 1, 1) := by decide +kernel
theorem dX8_parting_75 : decode cX8_parting 75 = .ok (.goto 4, 3) := by decide +kernel
theorem dX8_parting_78 : decode cX8_parting 78 = .ok (.iconst 0, 1) := by decide +kernel
theorem dX8_parting_79 : decode cX8_parting 79 = .ok (.isub, 1) := by decide +kernel
theorem dX8_parting_80 : decode cX8_parting 80 = .ok (.istore 4, 2) := by decide +kernel
theorem dX8_parting_82 : decode cX8_parting 82 = .ok (.iinc 5 1, 3) := by decide +kernel
theorem dX8_parting_85 : decode cX8_parting 85 = .ok (.goto (-53), 3) := by decide +kernel
theorem dX8_parting_88 : decode cX8_parting 88 = .ok (.iload_n 1, 1) := by decide +kernel
theorem dX8_parting_89 : decode cX8_parting 89 = .ok (.iload 4, 2) := by decide +kernel
theorem dX8_parting_91 : decode cX8_parting 91 = .ok (.iload_n 2, 1) := by decide +kernel
theorem dX8_parting_92 : decode cX8_parting 92 = .ok (.if_icmp .le 7, 3) := by decide +kernel
theorem dX8_parting_95 : decode cX8_parting 95 = .ok (.iconst 1, 1) := by decide +kernel
theorem dX8_parting_96 : decode cX8_parting 96 = .ok (.goto 4, 3) := by decide +kernel
theorem dX8_parting_99 : decode cX8_parting 99 = .ok (.iconst 0, 1) := by decide +kernel
theorem dX8_parting_100 : decode cX8_parting 100 = .ok (.iadd, 1) := by decide +kernel
theorem dX8_parting_101 : decode cX8_parting 101 = .ok (.istore_n 1, 1) := by decide +kernel
theorem dX8_parting_102 : decode cX8_parting 102 = .ok (.iinc 3 1, 3) := by decide +kernel
theorem dX8_parting_105 : decode cX8_parting 105 = .ok (.goto (-96), 3) := by decide +kernel
theorem dX8_parting_108 : decode cX8_parting 108 = .ok (.iload_n 1, 1) := by decide +kernel
theorem dX8_parting_109 : decode cX8_parting 109 = .ok (.ireturn, 1) := by decide +kernel
set_option maxRecDepth 20000 in
theorem ggX8_rank_X8_takeList : GoodIn wsX8_rank wsX8_takeList := goodIn_r _ [6, 1, 7, 8, 9, 10, 11, 5, 12, 13, 14, 15, 16, 17, 18, 19, 20, 21, 22, 23, 24, 25, 26, 27, 28, 29, 30, 31, 32, 33, 34, 35, 36, 37] (by decide +kernel) (by decide +kernel)
set_option maxRecDepth 20000 in
theorem gX8_rank_X8_takeList : GoodIn wsX8_rank (wsV RX8 146 RX8 yX8_takeList wsX8_takeList) := goodIn_app (goodIn_of _ (by decide +kernel)) ggX8_rank_X8_takeList
theorem dX8_rank_0 : decode cX8_rank 0 = .ok (.aload_n 0, 1) := by decide +kernel
theorem dX8_rank_1 : decode cX8_rank 1 = .ok (.invokevirtual 146, 3) := by decide +kernel
theorem dX8_rank_4 : decode cX8_rank 4 = .ok (.aload_n 0, 1) := by decide +kernel
theorem dX8_rank_5 : decode cX8_rank 5 = .ok (.getfield 130, 3) := by decide +kernel
theorem dX8_rank_8 : decode cX8_rank 8 = .ok (.ireturn, 1) := by decide +kernel
set_option maxRecDepth 20000 in
theorem ggX8_look_X8_throwing : GoodIn wsX8_look wsX8_throwing := goodIn_r _ [8, 9, 64, 65, 66, 67, 68, 69, 70, 71, 72, 73, 74, 75, 76, 77, 78, 79, 80, 81, 82, 83] (by decide +kernel) (by decide +kernel)
set_option maxRecDepth 20000 in
theorem gX8_look_X8_throwing : GoodIn wsX8_look (wsV RX8 78 RX8 yX8_throwing wsX8_throwing) := goodIn_app (goodIn_of _ (by decide +kernel)) ggX8_look_X8_throwing
set_option maxRecDepth 20000 in
theorem ggX8_look_X8_groups : GoodIn wsX8_look wsX8_groups := goodIn_r _ [13, 1, 2, 14, 15, 16, 7, 17, 18, 19, 20, 21, 22, 23, 24, 25, 26, 27, 28, 64, 65, 66, 67, 68, 69, 70, 71, 72, 73, 74, 75, 76, 77, 78, 79, 80, 81, 82, 83] (by decide +kernel) (by decide +kernel)
set_option maxRecDepth 20000 in
theorem gX8_look_X8_groups : GoodIn wsX8_look (wsV RX8 74 RX8 yX8_groups wsX8_groups) := goodIn_app (goodIn_of _ (by decide +kernel)) ggX8_look_X8_groups
set_option maxRecDepth 20000 in
theorem ggX8_look_X8_dimension : GoodIn wsX8_look wsX8_dimension := goodIn_r _ [32, 2, 1, 10, 11, 12, 7, 13, 14, 15, 16, 17, 18, 19, 20, 21, 22, 23, 24, 25, 26, 27, 28, 64, 65, 66, 67, 68, 69, 70, 71, 72, 73, 74, 75, 76, 77, 78, 79, 80, 81, 82, 83] (by decide +kernel) (by decide +kernel)
set_option maxRecDepth 20000 in
theorem gX8_look_X8_dimension : GoodIn wsX8_look (wsV RX8 86 RX8 yX8_dimension wsX8_dimension) := goodIn_app (goodIn_of _ (by decide +kernel)) ggX8_look_X8_dimension
set_option maxRecDepth 20000 in
theorem ggX8_look_X8_alone : GoodIn wsX8_look wsX8_alone := goodIn_r _ [36, 2, 1, 10, 11, 12, 7, 13, 14, 15, 16, 17, 18, 19, 20, 21, 22, 23, 24, 25, 26, 27, 28, 64, 65, 66, 67, 68, 69, 70, 71, 72, 73, 74, 75, 76, 77, 78, 79, 80, 81, 82, 83] (by decide +kernel) (by decide +kernel)
set_option maxRecDepth 20000 in
theorem gX8_look_X8_alone : GoodIn wsX8_look (wsV RX8 149 RX8 yX8_alone wsX8_alone) := goodIn_app (goodIn_of _ (by decide +kernel)) ggX8_look_X8_alone
set_option maxRecDepth 20000 in
theorem ggX8_look_X8_areEven : GoodIn wsX8_look wsX8_areEven := goodIn_r _ [40, 18, 2, 27, 10, 11, 12, 7, 13, 1, 14, 15, 16, 17, 19, 20, 21, 22, 23, 24, 25, 26, 28, 64, 65, 66, 67, 68, 69, 70, 71, 72, 73, 74, 75, 76, 77, 78, 79, 80, 81, 82, 83] (by decide +kernel) (by decide +kernel)
set_option maxRecDepth 20000 in
theorem gX8_look_X8_areEven : GoodIn wsX8_look (wsV RX8 152 RX8 yX8_areEven wsX8_areEven) := goodIn_app (goodIn_of _ (by decide +kernel)) ggX8_look_X8_areEven
set_option maxRecDepth 20000 in
theorem ggX8_look_X8_rank : GoodIn wsX8_look wsX8_rank := goodIn_r _ [44, 45, 46, 47, 48, 7, 49, 3, 50, 51, 52, 53, 54, 55, 56, 57, 58, 59, 64, 65, 66, 67, 68, 69, 70, 71, 72, 73, 74, 75, 76, 77, 78, 79, 80, 81, 82, 83] (by decide +kernel) (by decide +kernel)
set_option maxRecDepth 20000 in
theorem gX8_look_X8_rank : GoodIn wsX8_look (wsV RX8 156 RX8 yX8_rank wsX8_rank) := goodIn_app (goodIn_of _ (by decide +kernel)) ggX8_look_X8_rank
set_option maxRecDepth 20000 in
theorem ggX8_look_X8_parting : GoodIn wsX8_look wsX8_parting := goodIn_r _ [63, 1, 2, 25, 26, 10, 11, 12, 7, 13, 14, 15, 16, 17, 18, 19, 20, 21, 22, 23, 24, 27, 28, 64, 65, 66, 67, 68, 69, 70, 71, 72, 73, 74, 75, 76, 77, 78, 79, 80, 81, 82, 83] (by decide +kernel) (by decide +kernel)
end
section
set_option maxRecDepth 20000 in
theorem gX8_look_X8_parting : GoodIn wsX8_look (wsV RX8 159 RX8 yX8_parting wsX8_parting) := goodIn_app (goodIn_of _ (by decide +kernel)) ggX8_look_X8_parting
theorem dX8_look_0 : decode cX8_look 0 = .ok (.aload_n 0, 1) := by decide +kernel
theorem dX8_look_1 : decode cX8_look 1 = .ok (.iload_n 1, 1) := by decide +kernel
theorem dX8_look_2 : decode cX8_look 2 = .ok (.ifCond .lt 9, 3) := by decide +kernel
theorem dX8_look_5 : decode cX8_look 5 = .ok (.iload_n 1, 1) := by decide +kernel
theorem dX8_look_6 : decode cX8_look 6 = .ok (.bipush 8, 2) := by decide +kernel
theorem dX8_look_8 : decode cX8_look 8 = .ok (.if_icmp .le 7, 3) := by decide +kernel
theorem dX8_look_11 : decode cX8_look 11 = .ok (.iconst 1, 1) := by decide +kernel
theorem dX8_look_12 : decode cX8_look 12 = .ok (.goto 4, 3) := by decide +kernel
theorem dX8_look_15 : decode cX8_look 15 = .ok (.iconst 0, 1) := by decide +kernel
theorem dX8_look_16 : decode cX8_look 16 = .ok (.iconst 0, 1) := by decide +kernel
theorem dX8_look_17 : decode cX8_look 17 = .ok (.invokevirtual 78, 3) := by decide +kernel
theorem dX8_look_20 : decode cX8_look 20 = .ok (.ifCond .eq 5, 3) := by decide +kernel
theorem dX8_look_23 : decode cX8_look 23 = .ok (.iconst 0, 1) := by decide +kernel
theorem dX8_look_24 : decode cX8_look 24 = .ok (.ireturn, 1) := by decide +kernel
theorem dX8_look_25 : decode cX8_look 25 = .ok (.iload_n 1, 1) := by decide +kernel
theorem dX8_look_26 : decode cX8_look 26 = .ok (.tableswitch 94 0 7 #[46, 51, 56, 61, 66, 71, 84, 89], 46) := by decide +kernel
theorem dX8_look_72 : decode cX8_look 72 = .ok (.aload_n 0, 1) := by decide +kernel
theorem dX8_look_73 : decode cX8_look 73 = .ok (.getfield 7, 3) := by decide +kernel
theorem dX8_look_76 : decode cX8_look 76 = .ok (.ireturn, 1) := by decide +kernel
theorem dX8_look_77 : decode cX8_look 77 = .ok (.aload_n 0, 1) := by decide +kernel
theorem dX8_look_78 : decode cX8_look 78 = .ok (.getfield 61, 3) := by decide +kernel
theorem dX8_look_81 : decode cX8_look 81 = .ok (.ireturn, 1) := by decide +kernel
theorem dX8_look_82 : decode cX8_look 82 = .ok (.aload_n 0, 1) := by decide +kernel
theorem dX8_look_83 : decode cX8_look 83 = .ok (.invokevirtual 74, 3) := by decide +kernel
theorem dX8_look_86 : decode cX8_look 86 = .ok (.ireturn, 1) := by decide +kernel
theorem dX8_look_87 : decode cX8_look 87 = .ok (.aload_n 0, 1) := by decide +kernel
theorem dX8_look_88 : decode cX8_look 88 = .ok (.invokevirtual 86, 3) := by decide +kernel
theorem dX8_look_91 : decode cX8_look 91 = .ok (.ireturn, 1) := by decide +kernel
theorem dX8_look_92 : decode cX8_look 92 = .ok (.aload_n 0, 1) := by decide +kernel
theorem dX8_look_93 : decode cX8_look 93 = .ok (.invokevirtual 149, 3) := by decide +kernel
theorem dX8_look_96 : decode cX8_look 96 = .ok (.ireturn, 1) := by decide +kernel
theorem dX8_look_97 : decode cX8_look 97 = .ok (.aload_n 0, 1) := by decide +kernel
theorem dX8_look_98 : decode cX8_look 98 = .ok (.invokevirtual 152, 3) := by decide +kernel
theorem dX8_look_101 : decode cX8_look 101 = .ok (.ifCond .eq 7, 3) := by decide +kernel
theorem dX8_look_104 : decode cX8_look 104 = .ok (.iconst 1, 1) := by decide +kernel
theorem dX8_look_105 : decode cX8_look 105 = .ok (.goto 4, 3) := by decide +kernel
theorem dX8_look_108 : decode cX8_look 108 = .ok (.iconst 0, 1) := by decide +kernel
theorem dX8_look_109 : decode cX8_look 109 = .ok (.ireturn, 1) := by decide +kernel
theorem dX8_look_110 : decode cX8_look 110 = .ok (.aload_n 0, 1) := by decide +kernel
theorem dX8_look_111 : decode cX8_look 111 = .ok (.getfield 143, 3) := by decide +kernel
theorem dX8_look_114 : decode cX8_look 114 = .ok (.ireturn, 1) := by decide +kernel
theorem dX8_look_115 : decode cX8_look 115 = .ok (.aload_n 0, 1) := by decide +kernel
theorem dX8_look_116 : decode cX8_look 116 = .ok (.invokevirtual 156, 3) := by decide +kernel
theorem dX8_look_119 : decode cX8_look 119 = .ok (.ireturn, 1) := by decide +kernel
theorem dX8_look_120 : decode cX8_look 120 = .ok (.aload_n 0, 1) := by decide +kernel
theorem dX8_look_121 : decode cX8_look 121 = .ok (.invokevirtual 159, 3) := by decide +kernel
theorem dX8_look_124 : decode cX8_look 124 = .ok (.ireturn, 1) := by decide +kernel
theorem dJ6_numberOfTrailingZeros_0f7a4_0 : decode cJ6_numberOfTrailingZeros_0f7a4 0 = .ok (.iload_n 0, 1) := by decide +kernel
theorem dJ6_numberOfTrailingZeros_0f7a4_1 : decode cJ6_numberOfTrailingZeros_0f7a4 1 = .ok (.iconst (-1), 1) := by decide +kernel
theorem dJ6_numberOfTrailingZeros_0f7a4_2 : decode cJ6_numberOfTrailingZeros_0f7a4 2 = .ok (.ixor, 1) := by decide +kernel
theorem dJ6_numberOfTrailingZeros_0f7a4_3 : decode cJ6_numberOfTrailingZeros_0f7a4 3 = .ok (.iload_n 0, 1) := by decide +kernel
theorem dJ6_numberOfTrailingZeros_0f7a4_4 : decode cJ6_numberOfTrailingZeros_0f7a4 4 = .ok (.iconst 1, 1) := by decide +kernel
theorem dJ6_numberOfTrailingZeros_0f7a4_5 : decode cJ6_numberOfTrailingZeros_0f7a4 5 = .ok (.isub, 1) := by decide +kernel
theorem dJ6_numberOfTrailingZeros_0f7a4_6 : decode cJ6_numberOfTrailingZeros_0f7a4 6 = .ok (.iand, 1) := by decide +kernel
theorem dJ6_numberOfTrailingZeros_0f7a4_7 : decode cJ6_numberOfTrailingZeros_0f7a4 7 = .ok (.istore_n 0, 1) := by decide +kernel
theorem dJ6_numberOfTrailingZeros_0f7a4_8 : decode cJ6_numberOfTrailingZeros_0f7a4 8 = .ok (.iload_n 0, 1) := by decide +kernel
theorem dJ6_numberOfTrailingZeros_0f7a4_9 : decode cJ6_numberOfTrailingZeros_0f7a4 9 = .ok (.ifCond .gt 8, 3) := by decide +kernel
theorem dJ6_numberOfTrailingZeros_0f7a4_12 : decode cJ6_numberOfTrailingZeros_0f7a4 12 = .ok (.iload_n 0, 1) := by decide +kernel
theorem dJ6_numberOfTrailingZeros_0f7a4_13 : decode cJ6_numberOfTrailingZeros_0f7a4 13 = .ok (.bipush 32, 2) := by decide +kernel
theorem dJ6_numberOfTrailingZeros_0f7a4_15 : decode cJ6_numberOfTrailingZeros_0f7a4 15 = .ok (.iand, 1) := by decide +kernel
theorem dJ6_numberOfTrailingZeros_0f7a4_16 : decode cJ6_numberOfTrailingZeros_0f7a4 16 = .ok (.ireturn, 1) := by decide +kernel
theorem dJ6_numberOfTrailingZeros_0f7a4_17 : decode cJ6_numberOfTrailingZeros_0f7a4 17 = .ok (.iconst 1, 1) := by decide +kernel
theorem dJ6_numberOfTrailingZeros_0f7a4_18 : decode cJ6_numberOfTrailingZeros_0f7a4 18 = .ok (.istore_n 1, 1) := by decide +kernel
theorem dJ6_numberOfTrailingZeros_0f7a4_19 : decode cJ6_numberOfTrailingZeros_0f7a4 19 = .ok (.iload_n 0, 1) := by decide +kernel
theorem dJ6_numberOfTrailingZeros_0f7a4_20 : decode cJ6_numberOfTrailingZeros_0f7a4 20 = .ok (.ldc_w 264, 3) := by decide +kernel
theorem dJ6_numberOfTrailingZeros_0f7a4_23 : decode cJ6_numberOfTrailingZeros_0f7a4 23 = .ok (.if_icmp .le 11, 3) := by decide +kernel
theorem dJ6_numberOfTrailingZeros_0f7a4_26 : decode cJ6_numberOfTrailingZeros_0f7a4 26 = .ok (.iinc 1 16, 3) := by decide +kernel
theorem dJ6_numberOfTrailingZeros_0f7a4_29 : decode cJ6_numberOfTrailingZeros_0f7a4 29 = .ok (.iload_n 0, 1) := by decide +kernel
theorem dJ6_numberOfTrailingZeros_0f7a4_30 : decode cJ6_numberOfTrailingZeros_0f7a4 30 = .ok (.bipush 16, 2) := by decide +kernel
theorem dJ6_numberOfTrailingZeros_0f7a4_32 : decode cJ6_numberOfTrailingZeros_0f7a4 32 = .ok (.iushr, 1) := by decide +kernel
theorem dJ6_numberOfTrailingZeros_0f7a4_33 : decode cJ6_numberOfTrailingZeros_0f7a4 33 = .ok (.istore_n 0, 1) := by decide +kernel
theorem dJ6_numberOfTrailingZeros_0f7a4_34 : decode cJ6_numberOfTrailingZeros_0f7a4 34 = .ok (.iload_n 0, 1) := by decide +kernel
theorem dJ6_numberOfTrailingZeros_0f7a4_35 : decode cJ6_numberOfTrailingZeros_0f7a4 35 = .ok (.sipush 256, 3) := by decide +kernel
theorem dJ6_numberOfTrailingZeros_0f7a4_38 : decode cJ6_numberOfTrailingZeros_0f7a4 38 = .ok (.if_icmp .le 11, 3) := by decide +kernel
theorem dJ6_numberOfTrailingZeros_0f7a4_41 : decode cJ6_numberOfTrailingZeros_0f7a4 41 = .ok (.iinc 1 8, 3) := by decide +kernel
theorem dJ6_numberOfTrailingZeros_0f7a4_44 : decode cJ6_numberOfTrailingZeros_0f7a4 44 = .ok (.iload_n 0, 1) := by decide +kernel
theorem dJ6_numberOfTrailingZeros_0f7a4_45 : decode cJ6_numberOfTrailingZeros_0f7a4 45 = .ok (.bipush 8, 2) := by decide +kernel
theorem dJ6_numberOfTrailingZeros_0f7a4_47 : decode cJ6_numberOfTrailingZeros_0f7a4 47 = .ok (.iushr, 1) := by decide +kernel
theorem dJ6_numberOfTrailingZeros_0f7a4_48 : decode cJ6_numberOfTrailingZeros_0f7a4 48 = .ok (.istore_n 0, 1) := by decide +kernel
theorem dJ6_numberOfTrailingZeros_0f7a4_49 : decode cJ6_numberOfTrailingZeros_0f7a4 49 = .ok (.iload_n 0, 1) := by decide +kernel
theorem dJ6_numberOfTrailingZeros_0f7a4_50 : decode cJ6_numberOfTrailingZeros_0f7a4 50 = .ok (.bipush 16, 2) := by decide +kernel
theorem dJ6_numberOfTrailingZeros_0f7a4_52 : decode cJ6_numberOfTrailingZeros_0f7a4 52 = .ok (.if_icmp .le 10, 3) := by decide +kernel
theorem dJ6_numberOfTrailingZeros_0f7a4_55 : decode cJ6_numberOfTrailingZeros_0f7a4 55 = .ok (.iinc 1 4, 3) := by decide +kernel
theorem dJ6_numberOfTrailingZeros_0f7a4_58 : decode cJ6_numberOfTrailingZeros_0f7a4 58 = .ok (.iload_n 0, 1) := by decide +kernel
theorem dJ6_numberOfTrailingZeros_0f7a4_59 : decode cJ6_numberOfTrailingZeros_0f7a4 59 = .ok (.iconst 4, 1) := by decide +kernel
theorem dJ6_numberOfTrailingZeros_0f7a4_60 : decode cJ6_numberOfTrailingZeros_0f7a4 60 = .ok (.iushr, 1) := by decide +kernel
theorem dJ6_numberOfTrailingZeros_0f7a4_61 : decode cJ6_numberOfTrailingZeros_0f7a4 61 = .ok (.istore_n 0, 1) := by decide +kernel
theorem dJ6_numberOfTrailingZeros_0f7a4_62 : decode cJ6_numberOfTrailingZeros_0f7a4 62 = .ok (.iload_n 0, 1) := by decide +kernel
theorem dJ6_numberOfTrailingZeros_0f7a4_63 : decode cJ6_numberOfTrailingZeros_0f7a4 63 = .ok (.iconst 4, 1) := by decide +kernel
theorem dJ6_numberOfTrailingZeros_0f7a4_64 : decode cJ6_numberOfTrailingZeros_0f7a4 64 = .ok (.if_icmp .le 10, 3) := by decide +kernel
theorem dJ6_numberOfTrailingZeros_0f7a4_67 : decode cJ6_numberOfTrailingZeros_0f7a4 67 = .ok (.iinc 1 2, 3) := by decide +kernel
theorem dJ6_numberOfTrailingZeros_0f7a4_70 : decode cJ6_numberOfTrailingZeros_0f7a4 70 = .ok (.iload_n 0, 1) := by decide +kernel
theorem dJ6_numberOfTrailingZeros_0f7a4_71 : decode cJ6_numberOfTrailingZeros_0f7a4 71 = .ok (.iconst 2, 1) := by decide +kernel
theorem dJ6_numberOfTrailingZeros_0f7a4_72 : decode cJ6_numberOfTrailingZeros_0f7a4 72 = .ok (.iushr, 1) := by decide +kernel
theorem dJ6_numberOfTrailingZeros_0f7a4_73 : decode cJ6_numberOfTrailingZeros_0f7a4 73 = .ok (.istore_n 0, 1) := by decide +kernel
theorem dJ6_numberOfTrailingZeros_0f7a4_74 : decode cJ6_numberOfTrailingZeros_0f7a4 74 = .ok (.iload_n 1, 1) := by decide +kernel
theorem dJ6_numberOfTrailingZeros_0f7a4_75 : decode cJ6_numberOfTrailingZeros_0f7a4 75 = .ok (.iload_n 0, 1) := by decide +kernel
theorem dJ6_numberOfTrailingZeros_0f7a4_76 : decode cJ6_numberOfTrailingZeros_0f7a4 76 = .ok (.iconst 1, 1) := by decide +kernel
theorem dJ6_numberOfTrailingZeros_0f7a4_77 : decode cJ6_numberOfTrailingZeros_0f7a4 77 = .ok (.iushr, 1) := by decide +kernel
theorem dJ6_numberOfTrailingZeros_0f7a4_78 : decode cJ6_numberOfTrailingZeros_0f7a4 78 = .ok (.iadd, 1) := by decide +kernel
theorem dJ6_numberOfTrailingZeros_0f7a4_79 : decode cJ6_numberOfTrailingZeros_0f7a4 79 = .ok (.ireturn, 1) := by decide +kernel
set_option maxRecDepth 20000 in
theorem ggJ13_numberOfTrailingZeros_95d88_J6_numberOfTrailingZeros_0f7a4 : GoodIn wsJ13_numberOfTrailingZeros_95d88 wsJ6_numberOfTrailingZeros_0f7a4 := goodIn_r _ [4, 5] (by decide +kernel) (by decide +kernel)
set_option maxRecDepth 20000 in
theorem gJ13_numberOfTrailingZeros_95d88_J6_numberOfTrailingZeros_0f7a4 : GoodIn wsJ13_numberOfTrailingZeros_95d88 (va_wsS RJ13 311 yJ6_numberOfTrailingZeros_0f7a4 wsJ6_numberOfTrailingZeros_0f7a4) := goodIn_app (goodIn_of _ (by decide +kernel)) ggJ13_numberOfTrailingZeros_95d88_J6_numberOfTrailingZeros_0f7a4
theorem dJ13_numberOfTrailingZeros_95d88_0 : decode cJ13_numberOfTrailingZeros_95d88 0 = .ok (.lload_n 0, 1) := by decide +kernel
theorem dJ13_numberOfTrailingZeros_95d88_1 : decode cJ13_numberOfTrailingZeros_95d88 1 = .ok (.l2i, 1) := by decide +kernel
theorem dJ13_numberOfTrailingZeros_95d88_2 : decode cJ13_numberOfTrailingZeros_95d88 2 = .ok (.istore_n 2, 1) := by decide +kernel
theorem dJ13_numberOfTrailingZeros_95d88_3 : decode cJ13_numberOfTrailingZeros_95d88 3 = .ok (.iload_n 2, 1) := by decide +kernel
theorem dJ13_numberOfTrailingZeros_95d88_4 : decode cJ13_numberOfTrailingZeros_95d88 4 = .ok (.ifCond .ne 17, 3) := by decide +kernel
theorem dJ13_numberOfTrailingZeros_95d88_7 : decode cJ13_numberOfTrailingZeros_95d88 7 = .ok (.bipush 32, 2) := by decide +kernel
theorem dJ13_numberOfTrailingZeros_95d88_9 : decode cJ13_numberOfTrailingZeros_95d88 9 = .ok (.lload_n 0, 1) := by decide +kernel
theorem dJ13_numberOfTrailingZeros_95d88_10 : decode cJ13_numberOfTrailingZeros_95d88 10 = .ok (.bipush 32, 2) := by decide +kernel
theorem dJ13_numberOfTrailingZeros_95d88_12 : decode cJ13_numberOfTrailingZeros_95d88 12 = .ok (.lushr, 1) := by decide +kernel
theorem dJ13_numberOfTrailingZeros_95d88_13 : decode cJ13_numberOfTrailingZeros_95d88 13 = .ok (.l2i, 1) := by decide +kernel
theorem dJ13_numberOfTrailingZeros_95d88_14 : decode cJ13_numberOfTrailingZeros_95d88 14 = .ok (.invokestatic 311, 3) := by decide +kernel
theorem dJ13_numberOfTrailingZeros_95d88_17 : decode cJ13_numberOfTrailingZeros_95d88 17 = .ok (.iadd, 1) := by decide +kernel
theorem dJ13_numberOfTrailingZeros_95d88_18 : decode cJ13_numberOfTrailingZeros_95d88 18 = .ok (.goto 7, 3) := by decide +kernel
theorem dJ13_numberOfTrailingZeros_95d88_21 : decode cJ13_numberOfTrailingZeros_95d88 21 = .ok (.iload_n 2, 1) := by decide +kernel
theorem dJ13_numberOfTrailingZeros_95d88_22 : decode cJ13_numberOfTrailingZeros_95d88 22 = .ok (.invokestatic 311, 3) := by decide +kernel
theorem dJ13_numberOfTrailingZeros_95d88_25 : decode cJ13_numberOfTrailingZeros_95d88 25 = .ok (.ireturn, 1) := by decide +kernel
theorem dJ13_bitCount_95d88_0 : decode cJ13_bitCount_95d88 0 = .ok (.lload_n 0, 1) := by decide +kernel
theorem dJ13_bitCount_95d88_1 : decode cJ13_bitCount_95d88 1 = .ok (.lload_n 0, 1) := by decide +kernel
theorem dJ13_bitCount_95d88_2 : decode cJ13_bitCount_95d88 2 = .ok (.iconst 1, 1) := by decide +kernel
theorem dJ13_bitCount_95d88_3 : decode cJ13_bitCount_95d88 3 = .ok (.lushr, 1) := by decide +kernel
theorem dJ13_bitCount_95d88_4 : decode cJ13_bitCount_95d88 4 = .ok (.ldc2_w 314, 3) := by decide +kernel
theorem dJ13_bitCount_95d88_7 : decode cJ13_bitCount_95d88 7 = .ok (.land, 1) := by decide +kernel
theorem dJ13_bitCount_95d88_8 : decode cJ13_bitCount_95d88 8 = .ok (.lsub, 1) := by decide +kernel
theorem dJ13_bitCount_95d88_9 : decode cJ13_bitCount_95d88 9 = .ok (.lstore_n 0, 1) := by decide +kernel
theorem dJ13_bitCount_95d88_10 : decode cJ13_bitCount_95d88 10 = .ok (.lload_n 0, 1) := by decide +kernel
theorem dJ13_bitCount_95d88_11 : decode cJ13_bitCount_95d88 11 = .ok (.ldc2_w 316, 3) := by decide +kernel
theorem dJ13_bitCount_95d88_14 : decode cJ13_bitCount_95d88 14 = .ok (.land, 1) := by decide +kernel
theorem dJ13_bitCount_95d88_15 : decode cJ13_bitCount_95d88 15 = .ok (.lload_n 0, 1) := by decide +kernel
theorem dJ13_bitCount_95d88_16 : decode cJ13_bitCount_95d88 16 = .ok (.iconst 2, 1) := by decide +kernel
theorem dJ13_bitCount_95d88_17 : decode cJ13_bitCount_95d88 17 = .ok (.lushr, 1) := by decide +kernel
theorem dJ13_bitCount_95d88_18 : decode cJ13_bitCount_95d88 18 = .ok (.ldc2_w 316, 3) := by decide +kernel
theorem dJ13_bitCount_95d88_21 : decode cJ13_bitCount_95d88 21 = .ok (.land, 1) := by decide +kernel
theorem dJ13_bitCount_95d88_22 : decode cJ13_bitCount_95d88 22 = .ok (.ladd, 1) := by decide +kernel
theorem dJ13_bitCount_95d88_23 : decode cJ13_bitCount_95d88 23 = .ok (.lstore_n 0, 1) := by decide +kernel
theorem dJ13_bitCount_95d88_24 : decode cJ13_bitCount_95d88 24 = .ok (.lload_n 0, 1) := by decide +kernel
theorem dJ13_bitCount_95d88_25 : decode cJ13_bitCount_95d88 25 = .ok (.lload_n 0, 1) := by decide +kernel
theorem dJ13_bitCount_95d88_26 : decode cJ13_bitCount_95d88 26 = .ok (.iconst 4, 1) := by decide +kernel
theorem dJ13_bitCount_95d88_27 : decode cJ13_bitCount_95d88 27 = .ok (.lushr, 1) := by decide +kernel
theorem dJ13_bitCount_95d88_28 : decode cJ13_bitCount_95d88 28 = .ok (.ladd, 1) := by decide +kernel
theorem dJ13_bitCount_95d88_29 : decode cJ13_bitCount_95d88 29 = .ok (.ldc2_w 318, 3) := by decide +kernel
theorem dJ13_bitCount_95d88_32 : decode cJ13_bitCount_95d88 32 = .ok (.land, 1) := by decide +kernel
theorem dJ13_bitCount_95d88_33 : decode cJ13_bitCount_95d88 33 = .ok (.lstore_n 0, 1) := by decide +kernel
theorem dJ13_bitCount_95d88_34 : decode cJ13_bitCount_95d88 34 = .ok (.lload_n 0, 1) := by decide +kernel
theorem dJ13_bitCount_95d88_35 : decode cJ13_bitCount_95d88 35 = .ok (.lload_n 0, 1) := by decide +kernel
theorem dJ13_bitCount_95d88_36 : decode cJ13_bitCount_95d88 36 = .ok (.bipush 8, 2) := by decide +kernel
theorem dJ13_bitCount_95d88_38 : decode cJ13_bitCount_95d88 38 = .ok (.lushr, 1) := by decide +kernel
theorem dJ13_bitCount_95d88_39 : decode cJ13_bitCount_95d88 39 = .ok (.ladd, 1) := by decide +kernel
theorem dJ13_bitCount_95d88_40 : decode cJ13_bitCount_95d88 40 = .ok (.lstore_n 0, 1) := by decide +kernel
theorem dJ13_bitCount_95d88_41 : decode cJ13_bitCount_95d88 41 = .ok (.lload_n 0, 1) := by decide +kernel
theorem dJ13_bitCount_95d88_42 : decode cJ13_bitCount_95d88 42 = .ok (.lload_n 0, 1) := by decide +kernel
theorem dJ13_bitCount_95d88_43 : decode cJ13_bitCount_95d88 43 = .ok (.bipush 16, 2) := by decide +kernel
theorem dJ13_bitCount_95d88_45 : decode cJ13_bitCount_95d88 45 = .ok (.lushr, 1) := by decide +kernel
theorem dJ13_bitCount_95d88_46 : decode cJ13_bitCount_95d88 46 = .ok (.ladd, 1) := by decide +kernel
theorem dJ13_bitCount_95d88_47 : decode cJ13_bitCount_95d88 47 = .ok (.lstore_n 0, 1) := by decide +kernel
theorem dJ13_bitCount_95d88_48 : decode cJ13_bitCount_95d88 48 = .ok (.lload_n 0, 1) := by decide +kernel
theorem dJ13_bitCount_95d88_49 : decode cJ13_bitCount_95d88 49 = .ok (.lload_n 0, 1) := by decide +kernel
theorem dJ13_bitCount_95d88_50 : decode cJ13_bitCount_95d88 50 = .ok (.bipush 32, 2) := by decide +kernel
theorem dJ13_bitCount_95d88_52 : decode cJ13_bitCount_95d88 52 = .ok (.lushr, 1) := by decide +kernel
theorem dJ13_bitCount_95d88_53 : decode cJ13_bitCount_95d88 53 = .ok (.ladd, 1) := by decide +kernel
theorem dJ13_bitCount_95d88_54 : decode cJ13_bitCount_95d88 54 = .ok (.lstore_n 0, 1) := by decide +kernel
theorem dJ13_bitCount_95d88_55 : decode cJ13_bitCount_95d88 55 = .ok (.lload_n 0, 1) := by decide +kernel
theorem dJ13_bitCount_95d88_56 : decode cJ13_bitCount_95d88 56 = .ok (.l2i, 1) := by decide +kernel
theorem dJ13_bitCount_95d88_57 : decode cJ13_bitCount_95d88 57 = .ok (.bipush 127, 2) := by decide +kernel
theorem dJ13_bitCount_95d88_59 : decode cJ13_bitCount_95d88 59 = .ok (.iand, 1) := by decide +kernel
theorem dJ13_bitCount_95d88_60 : decode cJ13_bitCount_95d88 60 = .ok (.ireturn, 1) := by decide +kernel
theorem dJ7_fill_d0a16_0 : decode cJ7_fill_d0a16 0 = .ok (.iconst 0, 1) := by decide +kernel
theorem dJ7_fill_d0a16_1 : decode cJ7_fill_d0a16 1 = .ok (.istore_n 3, 1) := by decide +kernel
theorem dJ7_fill_d0a16_2 : decode cJ7_fill_d0a16 2 = .ok (.aload_n 0, 1) := by decide +kernel
theorem dJ7_fill_d0a16_3 : decode cJ7_fill_d0a16 3 = .ok (.arraylength, 1) := by decide +kernel
theorem dJ7_fill_d0a16_4 : decode cJ7_fill_d0a16 4 = .ok (.istore 4, 2) := by decide +kernel
theorem dJ7_fill_d0a16_6 : decode cJ7_fill_d0a16 6 = .ok (.iload_n 3, 1) := by decide +kernel
theorem dJ7_fill_d0a16_7 : decode cJ7_fill_d0a16 7 = .ok (.iload 4, 2) := by decide +kernel
theorem dJ7_fill_d0a16_9 : decode cJ7_fill_d0a16 9 = .ok (.if_icmp .ge 13, 3) := by decide +kernel
theorem dJ7_fill_d0a16_12 : decode cJ7_fill_d0a16 12 = .ok (.aload_n 0, 1) := by decide +kernel
theorem dJ7_fill_d0a16_13 : decode cJ7_fill_d0a16 13 = .ok (.iload_n 3, 1) := by decide +kernel
theorem dJ7_fill_d0a16_14 : decode cJ7_fill_d0a16 14 = .ok (.lload_n 1, 1) := by decide +kernel
theorem dJ7_fill_d0a16_15 : decode cJ7_fill_d0a16 15 = .ok (.lastore, 1) := by decide +kernel
theorem dJ7_fill_d0a16_16 : decode cJ7_fill_d0a16 16 = .ok (.iinc 3 1, 3) := by decide +kernel
theorem dJ7_fill_d0a16_19 : decode cJ7_fill_d0a16 19 = .ok (.goto (-13), 3) := by decide +kernel
theorem dJ7_fill_d0a16_22 : decode cJ7_fill_d0a16 22 = .ok (.return_, 1) := by decide +kernel
theorem dJ7_fill_53178_0 : decode cJ7_fill_53178 0 = .ok (.iconst 0, 1) := by decide +kernel
theorem dJ7_fill_53178_1 : decode cJ7_fill_53178 1 = .ok (.istore_n 2, 1) := by decide +kernel
theorem dJ7_fill_53178_2 : decode cJ7_fill_53178 2 = .ok (.aload_n 0, 1) := by decide +kernel
theorem dJ7_fill_53178_3 : decode cJ7_fill_53178 3 = .ok (.arraylength, 1) := by decide +kernel
theorem dJ7_fill_53178_4 : decode cJ7_fill_53178 4 = .ok (.istore_n 3, 1) := by decide +kernel
theorem dJ7_fill_53178_5 : decode cJ7_fill_53178 5 = .ok (.iload_n 2, 1) := by decide +kernel
theorem dJ7_fill_53178_6 : decode cJ7_fill_53178 6 = .ok (.iload_n 3, 1) := by decide +kernel
theorem dJ7_fill_53178_7 : decode cJ7_fill_53178 7 = .ok (.if_icmp .ge 13, 3) := by decide +kernel
theorem dJ7_fill_53178_10 : decode cJ7_fill_53178 10 = .ok (.aload_n 0, 1) := by decide +kernel
theorem dJ7_fill_53178_11 : decode cJ7_fill_53178 11 = .ok (.iload_n 2, 1) := by decide +kernel
theorem dJ7_fill_53178_12 : decode cJ7_fill_53178 12 = .ok (.iload_n 1, 1) := by decide +kernel
theorem dJ7_fill_53178_13 : decode cJ7_fill_53178 13 = .ok (.iastore, 1) := by decide +kernel
theorem dJ7_fill_53178_14 : decode cJ7_fill_53178 14 = .ok (.iinc 2 1, 3) := by decide +kernel
theorem dJ7_fill_53178_17 : decode cJ7_fill_53178 17 = .ok (.goto (-12), 3) := by decide +kernel
theorem dJ7_fill_53178_20 : decode cJ7_fill_53178 20 = .ok (.return_, 1) := by decide +kernel
end

section
-- ===== PART A: goes FIRST, ahead of the names: the tables' words, and 'selects' of the private methods out of them =====
/-- a private method of a class that the tables say can be made, by its rows of tables_1 -/
def lw_okq (q : MethodName × Nat) : Prop := (q.1.cls ≠ "java/lang/invoke/MethodHandle" ∧ q.1.cls ≠ "java/lang/invoke/VarHandle") ∧ Cond.instantiable q.1.cls q.2 ∈ tables_1 ∧ Cond.privateMethod q.1 ∈ tables_1 ∧ Cond.instanceMethod q.1 ∈ tables_1
theorem lw_p0 : lw_okq (⟨"CycleHouse", "fillRings", "()I"⟩, 8) := ⟨⟨by decide +kernel, by decide +kernel⟩, List.mem_of_getElem? (i := 20) (by decide +kernel), List.mem_of_getElem? (i := 224) (by decide +kernel), List.mem_of_getElem? (i := 225) (by decide +kernel)⟩
theorem lw_p1 : lw_okq (⟨"CycleHouse$Groups", "merge", "(IIJ)V"⟩, 4) := ⟨⟨by decide +kernel, by decide +kernel⟩, List.mem_of_getElem? (i := 94) (by decide +kernel), List.mem_of_getElem? (i := 240) (by decide +kernel), List.mem_of_getElem? (i := 241) (by decide +kernel)⟩
theorem lw_p2 : lw_okq (⟨"java/lang/Throwable", "fillInStackTrace", "(I)Ljava/lang/Throwable;"⟩, 6) := ⟨⟨by decide +kernel, by decide +kernel⟩, List.mem_of_getElem? (i := 322) (by decide +kernel), List.mem_of_getElem? (i := 320) (by decide +kernel), List.mem_of_getElem? (i := 321) (by decide +kernel)⟩
theorem lw_p3 : lw_okq (⟨"CycleHouse", "joinWhole", "()I"⟩, 8) := ⟨⟨by decide +kernel, by decide +kernel⟩, List.mem_of_getElem? (i := 20) (by decide +kernel), List.mem_of_getElem? (i := 387) (by decide +kernel), List.mem_of_getElem? (i := 388) (by decide +kernel)⟩
theorem lw_p4 : lw_okq (⟨"CycleHouse", "joinSet", "(J)I"⟩, 8) := ⟨⟨by decide +kernel, by decide +kernel⟩, List.mem_of_getElem? (i := 20) (by decide +kernel), List.mem_of_getElem? (i := 391) (by decide +kernel), List.mem_of_getElem? (i := 392) (by decide +kernel)⟩
theorem lw_p5 : lw_okq (⟨"CycleHouse", "checkEdges", "(J)V"⟩, 8) := ⟨⟨by decide +kernel, by decide +kernel⟩, List.mem_of_getElem? (i := 20) (by decide +kernel), List.mem_of_getElem? (i := 421) (by decide +kernel), List.mem_of_getElem? (i := 422) (by decide +kernel)⟩
theorem lw_p6 : lw_okq (⟨"CycleHouse$ForestCount", "determinant", "(I)J"⟩, 1) := ⟨⟨by decide +kernel, by decide +kernel⟩, List.mem_of_getElem? (i := 157) (by decide +kernel), List.mem_of_getElem? (i := 431) (by decide +kernel), List.mem_of_getElem? (i := 432) (by decide +kernel)⟩
theorem lw_p7 : lw_okq (⟨"CycleHouse$ForestCount", "eliminate", "(IIJ)V"⟩, 1) := ⟨⟨by decide +kernel, by decide +kernel⟩, List.mem_of_getElem? (i := 157) (by decide +kernel), List.mem_of_getElem? (i := 435) (by decide +kernel), List.mem_of_getElem? (i := 436) (by decide +kernel)⟩
theorem lw_p8 : lw_okq (⟨"CycleHouse", "weightOfLightestJoins", "()J"⟩, 8) := ⟨⟨by decide +kernel, by decide +kernel⟩, List.mem_of_getElem? (i := 20) (by decide +kernel), List.mem_of_getElem? (i := 452) (by decide +kernel), List.mem_of_getElem? (i := 453) (by decide +kernel)⟩
theorem lw_p9 : lw_okq (⟨"CycleHouse", "lightestJoin", "()I"⟩, 8) := ⟨⟨by decide +kernel, by decide +kernel⟩, List.mem_of_getElem? (i := 20) (by decide +kernel), List.mem_of_getElem? (i := 456) (by decide +kernel), List.mem_of_getElem? (i := 457) (by decide +kernel)⟩
theorem lw_p10 : lw_okq (⟨"CycleHouse$Ways", "shortenAll", "(LCycleHouse$Graph;I)Z"⟩, 2) := ⟨⟨by decide +kernel, by decide +kernel⟩, List.mem_of_getElem? (i := 115) (by decide +kernel), List.mem_of_getElem? (i := 500) (by decide +kernel), List.mem_of_getElem? (i := 501) (by decide +kernel)⟩
theorem lw_p11 : lw_okq (⟨"CycleHouse$Ways", "shorten", "(IIII)Z"⟩, 2) := ⟨⟨by decide +kernel, by decide +kernel⟩, List.mem_of_getElem? (i := 115) (by decide +kernel), List.mem_of_getElem? (i := 504) (by decide +kernel), List.mem_of_getElem? (i := 505) (by decide +kernel)⟩
theorem lw_p12 : lw_okq (⟨"CycleHouse$LightBasis", "gatherAll", "(LCycleHouse$Graph;LCycleHouse$Ways;)V"⟩, 6) := ⟨⟨by decide +kernel, by decide +kernel⟩, List.mem_of_getElem? (i := 131) (by decide +kernel), List.mem_of_getElem? (i := 524) (by decide +kernel), List.mem_of_getElem? (i := 525) (by decide +kernel)⟩
theorem lw_p13 : lw_okq (⟨"CycleHouse$LightBasis", "gather", "(LCycleHouse$Graph;LCycleHouse$Ways;I)V"⟩, 6) := ⟨⟨by decide +kernel, by decide +kernel⟩, List.mem_of_getElem? (i := 131) (by decide +kernel), List.mem_of_getElem? (i := 529) (by decide +kernel), List.mem_of_getElem? (i := 530) (by decide +kernel)⟩
theorem lw_p14 : lw_okq (⟨"CycleHouse$LightBasis", "lightestLeft", "()I"⟩, 6) := ⟨⟨by decide +kernel, by decide +kernel⟩, List.mem_of_getElem? (i := 131) (by decide +kernel), List.mem_of_getElem? (i := 534) (by decide +kernel), List.mem_of_getElem? (i := 535) (by decide +kernel)⟩
theorem lw_p15 : lw_okq (⟨"CycleHouse$LightBasis", "strike", "(J)V"⟩, 6) := ⟨⟨by decide +kernel, by decide +kernel⟩, List.mem_of_getElem? (i := 131) (by decide +kernel), List.mem_of_getElem? (i := 538) (by decide +kernel), List.mem_of_getElem? (i := 539) (by decide +kernel)⟩
def lw_privs_1 : List (MethodName × Nat) := [(⟨"CycleHouse", "fillRings", "()I"⟩, 8), (⟨"CycleHouse$Groups", "merge", "(IIJ)V"⟩, 4), (⟨"java/lang/Throwable", "fillInStackTrace", "(I)Ljava/lang/Throwable;"⟩, 6), (⟨"CycleHouse", "joinWhole", "()I"⟩, 8), (⟨"CycleHouse", "joinSet", "(J)I"⟩, 8), (⟨"CycleHouse", "checkEdges", "(J)V"⟩, 8), (⟨"CycleHouse$ForestCount", "determinant", "(I)J"⟩, 1), (⟨"CycleHouse$ForestCount", "eliminate", "(IIJ)V"⟩, 1), (⟨"CycleHouse", "weightOfLightestJoins", "()J"⟩, 8), (⟨"CycleHouse", "lightestJoin", "()I"⟩, 8), (⟨"CycleHouse$Ways", "shortenAll", "(LCycleHouse$Graph;I)Z"⟩, 2), (⟨"CycleHouse$Ways", "shorten", "(IIII)Z"⟩, 2), (⟨"CycleHouse$LightBasis", "gatherAll", "(LCycleHouse$Graph;LCycleHouse$Ways;)V"⟩, 6), (⟨"CycleHouse$LightBasis", "gather", "(LCycleHouse$Graph;LCycleHouse$Ways;I)V"⟩, 6), (⟨"CycleHouse$LightBasis", "lightestLeft", "()I"⟩, 6), (⟨"CycleHouse$LightBasis", "strike", "(J)V"⟩, 6)]
theorem lw_r1 : ∀ q ∈ lw_privs_1, lw_okq q := List.forall_mem_cons.mpr ⟨lw_p0, List.forall_mem_cons.mpr ⟨lw_p1, List.forall_mem_cons.mpr ⟨lw_p2, List.forall_mem_cons.mpr ⟨lw_p3, List.forall_mem_cons.mpr ⟨lw_p4, List.forall_mem_cons.mpr ⟨lw_p5, List.forall_mem_cons.mpr ⟨lw_p6, List.forall_mem_cons.mpr ⟨lw_p7, List.forall_mem_cons.mpr ⟨lw_p8, List.forall_mem_cons.mpr ⟨lw_p9, List.forall_mem_cons.mpr ⟨lw_p10, List.forall_mem_cons.mpr ⟨lw_p11, List.forall_mem_cons.mpr ⟨lw_p12, List.forall_mem_cons.mpr ⟨lw_p13, List.forall_mem_cons.mpr ⟨lw_p14, List.forall_mem_cons.mpr ⟨lw_p15, fun _ h => absurd h List.not_mem_nil⟩⟩⟩⟩⟩⟩⟩⟩⟩⟩⟩⟩⟩⟩⟩⟩
theorem lw_p16 : lw_okq (⟨"CycleHouse", "checkListed", "(J)V"⟩, 8) := ⟨⟨by decide +kernel, by decide +kernel⟩, List.mem_of_getElem? (i := 20) (by decide +kernel), List.mem_of_getElem? (i := 563) (by decide +kernel), List.mem_of_getElem? (i := 564) (by decide +kernel)⟩
theorem lw_p17 : lw_okq (⟨"CycleHouse", "countGroups", "()I"⟩, 8) := ⟨⟨by decide +kernel, by decide +kernel⟩, List.mem_of_getElem? (i := 20) (by decide +kernel), List.mem_of_getElem? (i := 594) (by decide +kernel), List.mem_of_getElem? (i := 595) (by decide +kernel)⟩
theorem lw_p18 : lw_okq (⟨"CycleHouse", "countEdgesInNoCycle", "()I"⟩, 8) := ⟨⟨by decide +kernel, by decide +kernel⟩, List.mem_of_getElem? (i := 20) (by decide +kernel), List.mem_of_getElem? (i := 598) (by decide +kernel), List.mem_of_getElem? (i := 599) (by decide +kernel)⟩
theorem lw_p19 : lw_okq (⟨"CycleHouse", "hasOddCycle", "()Z"⟩, 8) := ⟨⟨by decide +kernel, by decide +kernel⟩, List.mem_of_getElem? (i := 20) (by decide +kernel), List.mem_of_getElem? (i := 603) (by decide +kernel), List.mem_of_getElem? (i := 604) (by decide +kernel)⟩
theorem lw_p20 : lw_okq (⟨"CycleHouse", "countCuttingVertices", "()I"⟩, 8) := ⟨⟨by decide +kernel, by decide +kernel⟩, List.mem_of_getElem? (i := 20) (by decide +kernel), List.mem_of_getElem? (i := 607) (by decide +kernel), List.mem_of_getElem? (i := 608) (by decide +kernel)⟩
theorem lw_p21 : lw_okq (⟨"CycleHouseModel", "throwing", "(ZZ)Z"⟩, 20) := ⟨⟨by decide +kernel, by decide +kernel⟩, List.mem_of_getElem? (i := 616) (by decide +kernel), List.mem_of_getElem? (i := 692) (by decide +kernel), List.mem_of_getElem? (i := 693) (by decide +kernel)⟩
theorem lw_p22 : lw_okq (⟨"CycleHouseModel", "isVertex", "(I)Z"⟩, 20) := ⟨⟨by decide +kernel, by decide +kernel⟩, List.mem_of_getElem? (i := 616) (by decide +kernel), List.mem_of_getElem? (i := 700) (by decide +kernel), List.mem_of_getElem? (i := 701) (by decide +kernel)⟩
theorem lw_p23 : lw_okq (⟨"CycleHouseModel", "dimension", "()I"⟩, 20) := ⟨⟨by decide +kernel, by decide +kernel⟩, List.mem_of_getElem? (i := 616) (by decide +kernel), List.mem_of_getElem? (i := 705) (by decide +kernel), List.mem_of_getElem? (i := 706) (by decide +kernel)⟩
theorem lw_p24 : lw_okq (⟨"CycleHouseModel", "groups", "()I"⟩, 20) := ⟨⟨by decide +kernel, by decide +kernel⟩, List.mem_of_getElem? (i := 616) (by decide +kernel), List.mem_of_getElem? (i := 709) (by decide +kernel), List.mem_of_getElem? (i := 710) (by decide +kernel)⟩
theorem lw_p25 : lw_okq (⟨"CycleHouseModel", "beginGroups", "()V"⟩, 20) := ⟨⟨by decide +kernel, by decide +kernel⟩, List.mem_of_getElem? (i := 616) (by decide +kernel), List.mem_of_getElem? (i := 713) (by decide +kernel), List.mem_of_getElem? (i := 714) (by decide +kernel)⟩
theorem lw_p26 : lw_okq (⟨"CycleHouseModel", "joins", "(I)Z"⟩, 20) := ⟨⟨by decide +kernel, by decide +kernel⟩, List.mem_of_getElem? (i := 616) (by decide +kernel), List.mem_of_getElem? (i := 717) (by decide +kernel), List.mem_of_getElem? (i := 718) (by decide +kernel)⟩
theorem lw_p27 : lw_okq (⟨"CycleHouseModel", "isSet", "(J)Z"⟩, 20) := ⟨⟨by decide +kernel, by decide +kernel⟩, List.mem_of_getElem? (i := 616) (by decide +kernel), List.mem_of_getElem? (i := 729) (by decide +kernel), List.mem_of_getElem? (i := 730) (by decide +kernel)⟩
theorem lw_p28 : lw_okq (⟨"CycleHouseModel", "beginsWith", "(J)Z"⟩, 20) := ⟨⟨by decide +kernel, by decide +kernel⟩, List.mem_of_getElem? (i := 616) (by decide +kernel), List.mem_of_getElem? (i := 733) (by decide +kernel), List.mem_of_getElem? (i := 734) (by decide +kernel)⟩
theorem lw_p29 : lw_okq (⟨"CycleHouseModel", "isFirst", "(I)Z"⟩, 20) := ⟨⟨by decide +kernel, by decide +kernel⟩, List.mem_of_getElem? (i := 616) (by decide +kernel), List.mem_of_getElem? (i := 737) (by decide +kernel), List.mem_of_getElem? (i := 738) (by decide +kernel)⟩
theorem lw_p30 : lw_okq (⟨"CycleHouseModel", "hang", "(II)Z"⟩, 20) := ⟨⟨by decide +kernel, by decide +kernel⟩, List.mem_of_getElem? (i := 616) (by decide +kernel), List.mem_of_getElem? (i := 741) (by decide +kernel), List.mem_of_getElem? (i := 742) (by decide +kernel)⟩
theorem lw_p31 : lw_okq (⟨"CycleHouseModel", "lay", "(II)V"⟩, 20) := ⟨⟨by decide +kernel, by decide +kernel⟩, List.mem_of_getElem? (i := 616) (by decide +kernel), List.mem_of_getElem? (i := 745) (by decide +kernel), List.mem_of_getElem? (i := 746) (by decide +kernel)⟩
def lw_privs_2 : List (MethodName × Nat) := [(⟨"CycleHouse", "checkListed", "(J)V"⟩, 8), (⟨"CycleHouse", "countGroups", "()I"⟩, 8), (⟨"CycleHouse", "countEdgesInNoCycle", "()I"⟩, 8), (⟨"CycleHouse", "hasOddCycle", "()Z"⟩, 8), (⟨"CycleHouse", "countCuttingVertices", "()I"⟩, 8), (⟨"CycleHouseModel", "throwing", "(ZZ)Z"⟩, 20), (⟨"CycleHouseModel", "isVertex", "(I)Z"⟩, 20), (⟨"CycleHouseModel", "dimension", "()I"⟩, 20), (⟨"CycleHouseModel", "groups", "()I"⟩, 20), (⟨"CycleHouseModel", "beginGroups", "()V"⟩, 20), (⟨"CycleHouseModel", "joins", "(I)Z"⟩, 20), (⟨"CycleHouseModel", "isSet", "(J)Z"⟩, 20), (⟨"CycleHouseModel", "beginsWith", "(J)Z"⟩, 20), (⟨"CycleHouseModel", "isFirst", "(I)Z"⟩, 20), (⟨"CycleHouseModel", "hang", "(II)Z"⟩, 20), (⟨"CycleHouseModel", "lay", "(II)V"⟩, 20)]
theorem lw_r2 : ∀ q ∈ lw_privs_2, lw_okq q := List.forall_mem_cons.mpr ⟨lw_p16, List.forall_mem_cons.mpr ⟨lw_p17, List.forall_mem_cons.mpr ⟨lw_p18, List.forall_mem_cons.mpr ⟨lw_p19, List.forall_mem_cons.mpr ⟨lw_p20, List.forall_mem_cons.mpr ⟨lw_p21, List.forall_mem_cons.mpr ⟨lw_p22, List.forall_mem_cons.mpr ⟨lw_p23, List.forall_mem_cons.mpr ⟨lw_p24, List.forall_mem_cons.mpr ⟨lw_p25, List.forall_mem_cons.mpr ⟨lw_p26, List.forall_mem_cons.mpr ⟨lw_p27, List.forall_mem_cons.mpr ⟨lw_p28, List.forall_mem_cons.mpr ⟨lw_p29, List.forall_mem_cons.mpr ⟨lw_p30, List.forall_mem_cons.mpr ⟨lw_p31, fun _ h => absurd h List.not_mem_nil⟩⟩⟩⟩⟩⟩⟩⟩⟩⟩⟩⟩⟩⟩⟩⟩
theorem lw_p32 : lw_okq (⟨"CycleHouseModel", "determinant", "(I)J"⟩, 20) := ⟨⟨by decide +kernel, by decide +kernel⟩, List.mem_of_getElem? (i := 616) (by decide +kernel), List.mem_of_getElem? (i := 749) (by decide +kernel), List.mem_of_getElem? (i := 750) (by decide +kernel)⟩
theorem lw_p33 : lw_okq (⟨"CycleHouseModel", "weightOf", "(J)J"⟩, 20) := ⟨⟨by decide +kernel, by decide +kernel⟩, List.mem_of_getElem? (i := 616) (by decide +kernel), List.mem_of_getElem? (i := 758) (by decide +kernel), List.mem_of_getElem? (i := 759) (by decide +kernel)⟩
theorem lw_p34 : lw_okq (⟨"CycleHouseModel", "isEven", "(J)Z"⟩, 20) := ⟨⟨by decide +kernel, by decide +kernel⟩, List.mem_of_getElem? (i := 616) (by decide +kernel), List.mem_of_getElem? (i := 766) (by decide +kernel), List.mem_of_getElem? (i := 767) (by decide +kernel)⟩
theorem lw_p35 : lw_okq (⟨"CycleHouseModel", "endsAt", "(JI)I"⟩, 20) := ⟨⟨by decide +kernel, by decide +kernel⟩, List.mem_of_getElem? (i := 616) (by decide +kernel), List.mem_of_getElem? (i := 770) (by decide +kernel), List.mem_of_getElem? (i := 771) (by decide +kernel)⟩
theorem lw_p36 : lw_okq (⟨"CycleHouseModel", "isRing", "(J)Z"⟩, 20) := ⟨⟨by decide +kernel, by decide +kernel⟩, List.mem_of_getElem? (i := 616) (by decide +kernel), List.mem_of_getElem? (i := 774) (by decide +kernel), List.mem_of_getElem? (i := 775) (by decide +kernel)⟩
theorem lw_p37 : lw_okq (⟨"CycleHouseModel", "spread", "()I"⟩, 20) := ⟨⟨by decide +kernel, by decide +kernel⟩, List.mem_of_getElem? (i := 616) (by decide +kernel), List.mem_of_getElem? (i := 782) (by decide +kernel), List.mem_of_getElem? (i := 783) (by decide +kernel)⟩
theorem lw_p38 : lw_okq (⟨"CycleHouseModel", "rest", "(J)J"⟩, 20) := ⟨⟨by decide +kernel, by decide +kernel⟩, List.mem_of_getElem? (i := 616) (by decide +kernel), List.mem_of_getElem? (i := 790) (by decide +kernel), List.mem_of_getElem? (i := 791) (by decide +kernel)⟩
theorem lw_p39 : lw_okq (⟨"CycleHouseModel", "take", "(J)Z"⟩, 20) := ⟨⟨by decide +kernel, by decide +kernel⟩, List.mem_of_getElem? (i := 616) (by decide +kernel), List.mem_of_getElem? (i := 794) (by decide +kernel), List.mem_of_getElem? (i := 795) (by decide +kernel)⟩
theorem lw_p40 : lw_okq (⟨"CycleHouseModel", "numberOf", "(J)I"⟩, 20) := ⟨⟨by decide +kernel, by decide +kernel⟩, List.mem_of_getElem? (i := 616) (by decide +kernel), List.mem_of_getElem? (i := 802) (by decide +kernel), List.mem_of_getElem? (i := 803) (by decide +kernel)⟩
theorem lw_p41 : lw_okq (⟨"CycleHouseModel", "takeList", "()V"⟩, 20) := ⟨⟨by decide +kernel, by decide +kernel⟩, List.mem_of_getElem? (i := 616) (by decide +kernel), List.mem_of_getElem? (i := 826) (by decide +kernel), List.mem_of_getElem? (i := 827) (by decide +kernel)⟩
theorem lw_p42 : lw_okq (⟨"CycleHouseModel", "alone", "()I"⟩, 20) := ⟨⟨by decide +kernel, by decide +kernel⟩, List.mem_of_getElem? (i := 616) (by decide +kernel), List.mem_of_getElem? (i := 834) (by decide +kernel), List.mem_of_getElem? (i := 835) (by decide +kernel)⟩
theorem lw_p43 : lw_okq (⟨"CycleHouseModel", "areEven", "()Z"⟩, 20) := ⟨⟨by decide +kernel, by decide +kernel⟩, List.mem_of_getElem? (i := 616) (by decide +kernel), List.mem_of_getElem? (i := 838) (by decide +kernel), List.mem_of_getElem? (i := 839) (by decide +kernel)⟩
theorem lw_p44 : lw_okq (⟨"CycleHouseModel", "rank", "()I"⟩, 20) := ⟨⟨by decide +kernel, by decide +kernel⟩, List.mem_of_getElem? (i := 616) (by decide +kernel), List.mem_of_getElem? (i := 842) (by decide +kernel), List.mem_of_getElem? (i := 843) (by decide +kernel)⟩
theorem lw_p45 : lw_okq (⟨"CycleHouseModel", "parting", "()I"⟩, 20) := ⟨⟨by decide +kernel, by decide +kernel⟩, List.mem_of_getElem? (i := 616) (by decide +kernel), List.mem_of_getElem? (i := 846) (by decide +kernel), List.mem_of_getElem? (i := 847) (by decide +kernel)⟩
def lw_privs_3 : List (MethodName × Nat) := [(⟨"CycleHouseModel", "determinant", "(I)J"⟩, 20), (⟨"CycleHouseModel", "weightOf", "(J)J"⟩, 20), (⟨"CycleHouseModel", "isEven", "(J)Z"⟩, 20), (⟨"CycleHouseModel", "endsAt", "(JI)I"⟩, 20), (⟨"CycleHouseModel", "isRing", "(J)Z"⟩, 20), (⟨"CycleHouseModel", "spread", "()I"⟩, 20), (⟨"CycleHouseModel", "rest", "(J)J"⟩, 20), (⟨"CycleHouseModel", "take", "(J)Z"⟩, 20), (⟨"CycleHouseModel", "numberOf", "(J)I"⟩, 20), (⟨"CycleHouseModel", "takeList", "()V"⟩, 20), (⟨"CycleHouseModel", "alone", "()I"⟩, 20), (⟨"CycleHouseModel", "areEven", "()Z"⟩, 20), (⟨"CycleHouseModel", "rank", "()I"⟩, 20), (⟨"CycleHouseModel", "parting", "()I"⟩, 20)]
theorem lw_r3 : ∀ q ∈ lw_privs_3, lw_okq q := List.forall_mem_cons.mpr ⟨lw_p32, List.forall_mem_cons.mpr ⟨lw_p33, List.forall_mem_cons.mpr ⟨lw_p34, List.forall_mem_cons.mpr ⟨lw_p35, List.forall_mem_cons.mpr ⟨lw_p36, List.forall_mem_cons.mpr ⟨lw_p37, List.forall_mem_cons.mpr ⟨lw_p38, List.forall_mem_cons.mpr ⟨lw_p39, List.forall_mem_cons.mpr ⟨lw_p40, List.forall_mem_cons.mpr ⟨lw_p41, List.forall_mem_cons.mpr ⟨lw_p42, List.forall_mem_cons.mpr ⟨lw_p43, List.forall_mem_cons.mpr ⟨lw_p44, List.forall_mem_cons.mpr ⟨lw_p45, fun _ h => absurd h List.not_mem_nil⟩⟩⟩⟩⟩⟩⟩⟩⟩⟩⟩⟩⟩⟩
def lw_privs : List (MethodName × Nat) := lw_privs_1 ++ (lw_privs_2 ++ (lw_privs_3))
def lw_tbl : List Cond := k2_sels lw_privs ++ tables_1
theorem lw_privs_ok : ∀ q ∈ lw_privs, lw_okq q := by
  show ∀ q ∈ lw_privs_1 ++ (lw_privs_2 ++ (lw_privs_3)), lw_okq q
  exact List.forall_mem_append.mpr ⟨lw_r1, List.forall_mem_append.mpr ⟨lw_r2, lw_r3⟩⟩
-- ===== end of PART A; then your names; then what follows =====
end
section
/-! ===== BEGIN words of one list among another's, by their places ===== -/
theorem goodIn_r {big : List Cond} (ws : List Cond) (ps : List Nat) (hp : ws = ps.filterMap (fun i => big[i]?)) (h : ws.all goodWord = true) : GoodIn big ws := by
  intro w hw
  have h1 := List.all_eq_true.mp h w hw
  rw [hp] at hw
  obtain ⟨i, -, hi⟩ := List.mem_filterMap.mp hw
  have hm : w ∈ big := by first | exact List.mem_of_getElem? hi | exact List.getElem?_mem hi
  exact ⟨hm, good_of_word h1⟩
theorem goodIn_app {big a b : List Cond} (ha : GoodIn big a) (hb : GoodIn big b) : GoodIn big (a ++ b) := fun w h => (List.mem_append.mp h).elim (ha w) (hb w)
theorem goodIn_ca {big a b : List Cond} {c : Cond} (ha : GoodIn big (c :: a)) (hb : GoodIn big b) : GoodIn big (c :: (a ++ b)) := fun w h => (List.mem_cons.mp h).elim (fun e => ha w (List.mem_cons.mpr (Or.inl e))) (fun h => (List.mem_append.mp h).elim (fun h => ha w (List.mem_cons.mpr (Or.inr h))) (hb w))
theorem goodIn_sub {big ws : List Cond} (hm : ∀ w ∈ ws, w ∈ big) (h : ws.all goodWord = true) : GoodIn big ws := fun w hw => ⟨hm w hw, good_of_word (List.all_eq_true.mp h w hw)⟩
/-! ===== END ===== -/
end
section
/-! ===== BEGIN printed: names, fields, word lists, decode rows ===== -/
def RX0 : String := "CycleHouse$CycleCount"
def TX0 : u_T := fun k => match k with
  | _ => ("CycleHouse$CycleCount", "between", "[[I", true)
def tyX0 : Nat → FieldType := fun k => match k with
  | _ => .array (.array .int)
abbrev wsX00 : List Cond := u_ws RX0 TX0 1
theorem nmX0 : ∀ a, a < 1 → ∀ b, b < 1 → a ≠ b → (TX0 a).2.1 ≠ (TX0 b).2.1 := by decide +kernel
theorem tyX0_ok : ∀ k, k < 1 → parseFieldDescriptor (TX0 k).2.2.1 = some (tyX0 k) := by decide +kernel
abbrev cX0_init : ByteArray := prog_2_method_1_code
def yX0_init : MethodName := ⟨RX0, "<init>", "()V"⟩
abbrev cX0_count : ByteArray := prog_2_method_2_code
def yX0_count : MethodName := ⟨RX0, "count", "(LCycleHouse$Graph;)I"⟩
abbrev cX0_paths : ByteArray := prog_2_method_3_code
def yX0_paths : MethodName := ⟨RX0, "paths", "([[IIIII)I"⟩
def RX1 : String := "CycleHouse$ForestCount"
def TX1 : u_T := fun k => match k with
  | _ => ("CycleHouse$ForestCount", "table", "[[J", true)
def tyX1 : Nat → FieldType := fun k => match k with
  | _ => .array (.array .long)
abbrev wsX10 : List Cond := u_ws RX1 TX1 1
theorem nmX1 : ∀ a, a < 1 → ∀ b, b < 1 → a ≠ b → (TX1 a).2.1 ≠ (TX1 b).2.1 := by decide +kernel
theorem tyX1_ok : ∀ k, k < 1 → parseFieldDescriptor (TX1 k).2.2.1 = some (tyX1 k) := by decide +kernel
abbrev cX1_init : ByteArray := prog_3_method_1_code
def yX1_init : MethodName := ⟨RX1, "<init>", "()V"⟩
abbrev cX1_count : ByteArray := prog_3_method_2_code
def yX1_count : MethodName := ⟨RX1, "count", "(LCycleHouse$Graph;LCycleHouse$Groups;)J"⟩
abbrev cX1_determinant : ByteArray := prog_3_method_3_code
def yX1_determinant : MethodName := ⟨RX1, "determinant", "(I)J"⟩
abbrev cX1_eliminate : ByteArray := prog_3_method_4_code
def yX1_eliminate : MethodName := ⟨RX1, "eliminate", "(IIJ)V"⟩
def RX2 : String := "CycleHouse$Graph"
def TX2 : u_T := fun k => match k with
  | 0 => ("CycleHouse$Graph", "vertices", "I", false)
  | 1 => ("CycleHouse$Graph", "edges", "I", false)
  | 2 => ("CycleHouse$Graph", "from", "[I", true)
  | 3 => ("CycleHouse$Graph", "to", "[I", true)
  | _ => ("CycleHouse$Graph", "weight", "[I", true)
def tyX2 : Nat → FieldType := fun k => match k with
  | 0 => .int
  | 1 => .int
  | 2 => .array .int
  | 3 => .array .int
  | _ => .array .int
abbrev wsX20 : List Cond := u_ws RX2 TX2 5
theorem nmX2 : ∀ a, a < 5 → ∀ b, b < 5 → a ≠ b → (TX2 a).2.1 ≠ (TX2 b).2.1 := by decide +kernel
theorem tyX2_ok : ∀ k, k < 5 → parseFieldDescriptor (TX2 k).2.2.1 = some (tyX2 k) := by decide +kernel
abbrev cX2_init : ByteArray := prog_4_method_1_code
def yX2_init : MethodName := ⟨RX2, "<init>", "()V"⟩
abbrev cX2_begin : ByteArray := prog_4_method_2_code
def yX2_begin : MethodName := ⟨RX2, "begin", "(I)V"⟩
abbrev cX2_hasVertex : ByteArray := prog_4_method_3_code
def yX2_hasVertex : MethodName := ⟨RX2, "hasVertex", "(I)Z"⟩
abbrev cX2_append : ByteArray := prog_4_method_4_code
def yX2_append : MethodName := ⟨RX2, "append", "(III)I"⟩
abbrev cX2_removeLast : ByteArray := prog_4_method_5_code
def yX2_removeLast : MethodName := ⟨RX2, "removeLast", "()I"⟩
abbrev cX2_isEven : ByteArray := prog_4_method_6_code
def yX2_isEven : MethodName := ⟨RX2, "isEven", "(J)Z"⟩
abbrev cX2_weigh : ByteArray := prog_4_method_7_code
def yX2_weigh : MethodName := ⟨RX2, "weigh", "(J)J"⟩
abbrev cX2_gain : ByteArray := prog_4_method_8_code
def yX2_gain : MethodName := ⟨RX2, "gain", "(JJ)J"⟩
abbrev cX2_edgesApartFrom : ByteArray := prog_4_method_9_code
def yX2_edgesApartFrom : MethodName := ⟨RX2, "edgesApartFrom", "(I)J"⟩
def RX3 : String := "CycleHouse$Groups"
def TX3 : u_T := fun k => match k with
  | 0 => ("CycleHouse$Groups", "vertices", "I", false)
  | 1 => ("CycleHouse$Groups", "count", "I", false)
  | 2 => ("CycleHouse$Groups", "name", "[I", true)
  | _ => ("CycleHouse$Groups", "way", "[J", true)
def tyX3 : Nat → FieldType := fun k => match k with
  | 0 => .int
  | 1 => .int
  | 2 => .array .int
  | _ => .array .long
abbrev wsX30 : List Cond := u_ws RX3 TX3 4
theorem nmX3 : ∀ a, a < 4 → ∀ b, b < 4 → a ≠ b → (TX3 a).2.1 ≠ (TX3 b).2.1 := by decide +kernel
theorem tyX3_ok : ∀ k, k < 4 → parseFieldDescriptor (TX3 k).2.2.1 = some (tyX3 k) := by decide +kernel
abbrev cX3_init : ByteArray := prog_5_method_1_code
def yX3_init : MethodName := ⟨RX3, "<init>", "()V"⟩
abbrev cX3_part : ByteArray := prog_5_method_2_code
def yX3_part : MethodName := ⟨RX3, "part", "(I)V"⟩
abbrev cX3_together : ByteArray := prog_5_method_3_code
def yX3_together : MethodName := ⟨RX3, "together", "(II)Z"⟩
abbrev cX3_join : ByteArray := prog_5_method_4_code
def yX3_join : MethodName := ⟨RX3, "join", "(LCycleHouse$Graph;I)J"⟩
abbrev cX3_merge : ByteArray := prog_5_method_5_code
def yX3_merge : MethodName := ⟨RX3, "merge", "(IIJ)V"⟩
def RX4 : String := "CycleHouse$LightBasis"
def TX4 : u_T := fun k => match k with
  | 0 => ("CycleHouse$LightBasis", "size", "I", false)
  | 1 => ("CycleHouse$LightBasis", "ring", "[J", true)
  | 2 => ("CycleHouse$LightBasis", "weight", "[J", true)
  | 3 => ("CycleHouse$LightBasis", "candidates", "I", false)
  | 4 => ("CycleHouse$LightBasis", "left", "[J", true)
  | _ => ("CycleHouse$LightBasis", "leftWeight", "[J", true)
def tyX4 : Nat → FieldType := fun k => match k with
  | 0 => .int
  | 1 => .array .long
  | 2 => .array .long
  | 3 => .int
  | 4 => .array .long
  | _ => .array .long
abbrev wsX40 : List Cond := u_ws RX4 TX4 6
theorem nmX4 : ∀ a, a < 6 → ∀ b, b < 6 → a ≠ b → (TX4 a).2.1 ≠ (TX4 b).2.1 := by decide +kernel
theorem tyX4_ok : ∀ k, k < 6 → parseFieldDescriptor (TX4 k).2.2.1 = some (tyX4 k) := by decide +kernel
abbrev cX4_init : ByteArray := prog_6_method_1_code
def yX4_init : MethodName := ⟨RX4, "<init>", "()V"⟩
abbrev cX4_find : ByteArray := prog_6_method_2_code
def yX4_find : MethodName := ⟨RX4, "find", "(LCycleHouse$Graph;LCycleHouse$Ways;)V"⟩
abbrev cX4_isSumOfLighter : ByteArray := prog_6_method_3_code
def yX4_isSumOfLighter : MethodName := ⟨RX4, "isSumOfLighter", "(JJ)Z"⟩
abbrev cX4_gatherAll : ByteArray := prog_6_method_4_code
def yX4_gatherAll : MethodName := ⟨RX4, "gatherAll", "(LCycleHouse$Graph;LCycleHouse$Ways;)V"⟩
abbrev cX4_gather : ByteArray := prog_6_method_5_code
def yX4_gather : MethodName := ⟨RX4, "gather", "(LCycleHouse$Graph;LCycleHouse$Ways;I)V"⟩
abbrev cX4_lightestLeft : ByteArray := prog_6_method_6_code
def yX4_lightestLeft : MethodName := ⟨RX4, "lightestLeft", "()I"⟩
abbrev cX4_strike : ByteArray := prog_6_method_7_code
def yX4_strike : MethodName := ⟨RX4, "strike", "(J)V"⟩
abbrev cX4_mark : ByteArray := prog_6_method_8_code
def yX4_mark : MethodName := ⟨RX4, "mark", "(J)J"⟩
def RX5 : String := "CycleHouse$SetList"
def TX5 : u_T := fun k => match k with
  | 0 => ("CycleHouse$SetList", "sets", "I", false)
  | 1 => ("CycleHouse$SetList", "rank", "I", false)
  | _ => ("CycleHouse$SetList", "row", "[J", true)
def tyX5 : Nat → FieldType := fun k => match k with
  | 0 => .int
  | 1 => .int
  | _ => .array .long
abbrev wsX50 : List Cond := u_ws RX5 TX5 3
theorem nmX5 : ∀ a, a < 3 → ∀ b, b < 3 → a ≠ b → (TX5 a).2.1 ≠ (TX5 b).2.1 := by decide +kernel
theorem tyX5_ok : ∀ k, k < 3 → parseFieldDescriptor (TX5 k).2.2.1 = some (tyX5 k) := by decide +kernel
abbrev cX5_init : ByteArray := prog_7_method_1_code
def yX5_init : MethodName := ⟨RX5, "<init>", "()V"⟩
abbrev cX5_append : ByteArray := prog_7_method_2_code
def yX5_append : MethodName := ⟨RX5, "append", "(J)I"⟩
abbrev cX5_empty : ByteArray := prog_7_method_3_code
def yX5_empty : MethodName := ⟨RX5, "empty", "()V"⟩
abbrev cX5_rest : ByteArray := prog_7_method_4_code
def yX5_rest : MethodName := ⟨RX5, "rest", "(J)J"⟩
def RX6 : String := "CycleHouse$Ways"
def TX6 : u_T := fun k => match k with
  | 0 => ("CycleHouse$Ways", "length", "[J", true)
  | _ => ("CycleHouse$Ways", "way", "[J", true)
def tyX6 : Nat → FieldType := fun k => match k with
  | 0 => .array .long
  | _ => .array .long
abbrev wsX60 : List Cond := u_ws RX6 TX6 2
theorem nmX6 : ∀ a, a < 2 → ∀ b, b < 2 → a ≠ b → (TX6 a).2.1 ≠ (TX6 b).2.1 := by decide +kernel
theorem tyX6_ok : ∀ k, k < 2 → parseFieldDescriptor (TX6 k).2.2.1 = some (tyX6 k) := by decide +kernel
abbrev cX6_init : ByteArray := prog_8_method_1_code
def yX6_init : MethodName := ⟨RX6, "<init>", "()V"⟩
abbrev cX6_seek : ByteArray := prog_8_method_2_code
def yX6_seek : MethodName := ⟨RX6, "seek", "(LCycleHouse$Graph;II)V"⟩
abbrev cX6_reaches : ByteArray := prog_8_method_3_code
def yX6_reaches : MethodName := ⟨RX6, "reaches", "(I)Z"⟩
abbrev cX6_shortenAll : ByteArray := prog_8_method_4_code
def yX6_shortenAll : MethodName := ⟨RX6, "shortenAll", "(LCycleHouse$Graph;I)Z"⟩
abbrev cX6_shorten : ByteArray := prog_8_method_5_code
def yX6_shorten : MethodName := ⟨RX6, "shorten", "(IIII)Z"⟩
def RX7 : String := "CycleHouse"
def TX7 : u_T := fun k => match k with
  | 0 => ("CycleHouse", "graph", "LCycleHouse$Graph;", true)
  | 1 => ("CycleHouse", "list", "LCycleHouse$SetList;", true)
  | 2 => ("CycleHouse", "groups", "LCycleHouse$Groups;", true)
  | 3 => ("CycleHouse", "ways", "LCycleHouse$Ways;", true)
  | 4 => ("CycleHouse", "lightBasis", "LCycleHouse$LightBasis;", true)
  | 5 => ("CycleHouse", "forestCount", "LCycleHouse$ForestCount;", true)
  | 6 => ("CycleHouse", "cycleCount", "LCycleHouse$CycleCount;", true)
  | _ => ("CycleHouse", "rings", "[J", true)
def tyX7 : Nat → FieldType := fun k => match k with
  | 0 => .object "CycleHouse$Graph"
  | 1 => .object "CycleHouse$SetList"
  | 2 => .object "CycleHouse$Groups"
  | 3 => .object "CycleHouse$Ways"
  | 4 => .object "CycleHouse$LightBasis"
  | 5 => .object "CycleHouse$ForestCount"
  | 6 => .object "CycleHouse$CycleCount"
  | _ => .array .long
abbrev wsX70 : List Cond := u_ws RX7 TX7 8
theorem nmX7 : ∀ a, a < 8 → ∀ b, b < 8 → a ≠ b → (TX7 a).2.1 ≠ (TX7 b).2.1 := by decide +kernel
theorem tyX7_ok : ∀ k, k < 8 → parseFieldDescriptor (TX7 k).2.2.1 = some (tyX7 k) := by decide +kernel
abbrev cX7_init : ByteArray := prog_1_method_1_code
def yX7_init : MethodName := ⟨RX7, "<init>", "()V"⟩
abbrev cX7_reset : ByteArray := prog_1_method_2_code
def yX7_reset : MethodName := ⟨RX7, "reset", "(I)I"⟩
abbrev cX7_edge : ByteArray := prog_1_method_3_code
def yX7_edge : MethodName := ⟨RX7, "edge", "(III)I"⟩
abbrev cX7_drop : ByteArray := prog_1_method_4_code
def yX7_drop : MethodName := ⟨RX7, "drop", "()I"⟩
abbrev cX7_forests : ByteArray := prog_1_method_5_code
def yX7_forests : MethodName := ⟨RX7, "forests", "(J)J"⟩
abbrev cX7_lightest : ByteArray := prog_1_method_6_code
def yX7_lightest : MethodName := ⟨RX7, "lightest", "(J)J"⟩
abbrev cX7_isCycle : ByteArray := prog_1_method_7_code
def yX7_isCycle : MethodName := ⟨RX7, "isCycle", "(J)I"⟩
abbrev cX7_through : ByteArray := prog_1_method_8_code
def yX7_through : MethodName := ⟨RX7, "through", "(I)J"⟩
abbrev cX7_basis : ByteArray := prog_1_method_9_code
def yX7_basis : MethodName := ⟨RX7, "basis", "(I)J"⟩
abbrev cX7_belongs : ByteArray := prog_1_method_10_code
def yX7_belongs : MethodName := ⟨RX7, "belongs", "(J)Z"⟩
abbrev cX7_cycles : ByteArray := prog_1_method_11_code
def yX7_cycles : MethodName := ⟨RX7, "cycles", "()I"⟩
abbrev cX7_light : ByteArray := prog_1_method_12_code
def yX7_light : MethodName := ⟨RX7, "light", "(J)I"⟩
abbrev cX7_add : ByteArray := prog_1_method_13_code
def yX7_add : MethodName := ⟨RX7, "add", "(J)I"⟩
abbrev cX7_clear : ByteArray := prog_1_method_14_code
def yX7_clear : MethodName := ⟨RX7, "clear", "()I"⟩
abbrev cX7_spans : ByteArray := prog_1_method_15_code
def yX7_spans : MethodName := ⟨RX7, "spans", "(J)Z"⟩
abbrev cX7_look : ByteArray := prog_1_method_16_code
def yX7_look : MethodName := ⟨RX7, "look", "(I)I"⟩
abbrev cX7_checkEdges : ByteArray := prog_1_method_17_code
def yX7_checkEdges : MethodName := ⟨RX7, "checkEdges", "(J)V"⟩
abbrev cX7_checkListed : ByteArray := prog_1_method_18_code
def yX7_checkListed : MethodName := ⟨RX7, "checkListed", "(J)V"⟩
abbrev cX7_has : ByteArray := prog_1_method_19_code
def yX7_has : MethodName := ⟨RX7, "has", "(JI)Z"⟩
abbrev cX7_joinSet : ByteArray := prog_1_method_20_code
def yX7_joinSet : MethodName := ⟨RX7, "joinSet", "(J)I"⟩
abbrev cX7_joinWhole : ByteArray := prog_1_method_21_code
def yX7_joinWhole : MethodName := ⟨RX7, "joinWhole", "()I"⟩
abbrev cX7_fillRings : ByteArray := prog_1_method_22_code
def yX7_fillRings : MethodName := ⟨RX7, "fillRings", "()I"⟩
abbrev cX7_weightOfLightestJoins : ByteArray := prog_1_method_23_code
def yX7_weightOfLightestJoins : MethodName := ⟨RX7, "weightOfLightestJoins", "()J"⟩
abbrev cX7_lightestJoin : ByteArray := prog_1_method_24_code
def yX7_lightestJoin : MethodName := ⟨RX7, "lightestJoin", "()I"⟩
abbrev cX7_countGroups : ByteArray := prog_1_method_25_code
def yX7_countGroups : MethodName := ⟨RX7, "countGroups", "()I"⟩
abbrev cX7_countEdgesInNoCycle : ByteArray := prog_1_method_26_code
def yX7_countEdgesInNoCycle : MethodName := ⟨RX7, "countEdgesInNoCycle", "()I"⟩
abbrev cX7_hasOddCycle : ByteArray := prog_1_method_27_code
def yX7_hasOddCycle : MethodName := ⟨RX7, "hasOddCycle", "()Z"⟩
abbrev cX7_countCuttingVertices : ByteArray := prog_1_method_28_code
def yX7_countCuttingVertices : MethodName := ⟨RX7, "countCuttingVertices", "()I"⟩
def RX8 : String := "CycleHouseModel"
def TX8 : u_T := fun k => match k with
  | 0 => ("CycleHouseModel", "thrown", "I", false)
  | 1 => ("CycleHouseModel", "n", "I", false)
  | 2 => ("CycleHouseModel", "m", "I", false)
  | 3 => ("CycleHouseModel", "from", "[I", true)
  | 4 => ("CycleHouseModel", "to", "[I", true)
  | 5 => ("CycleHouseModel", "weight", "[I", true)
  | 6 => ("CycleHouseModel", "list", "[J", true)
  | 7 => ("CycleHouseModel", "listed", "I", false)
  | 8 => ("CycleHouseModel", "group", "[I", true)
  | 9 => ("CycleHouseModel", "ways", "[J", true)
  | 10 => ("CycleHouseModel", "closed", "I", false)
  | 11 => ("CycleHouseModel", "closing", "[J", true)
  | 12 => ("CycleHouseModel", "closer", "[I", true)
  | 13 => ("CycleHouseModel", "elements", "[J", true)
  | 14 => ("CycleHouseModel", "weights", "[J", true)
  | 15 => ("CycleHouseModel", "rows", "[J", true)
  | 16 => ("CycleHouseModel", "rowed", "I", false)
  | 17 => ("CycleHouseModel", "matrix", "[J", true)
  | 18 => ("CycleHouseModel", "place", "[I", true)
  | _ => ("CycleHouseModel", "reached", "[Z", true)
def tyX8 : Nat → FieldType := fun k => match k with
  | 0 => .int
  | 1 => .int
  | 2 => .int
  | 3 => .array .int
  | 4 => .array .int
  | 5 => .array .int
  | 6 => .array .long
  | 7 => .int
  | 8 => .array .int
  | 9 => .array .long
  | 10 => .int
  | 11 => .array .long
  | 12 => .array .int
  | 13 => .array .long
  | 14 => .array .long
  | 15 => .array .long
  | 16 => .int
  | 17 => .array .long
  | 18 => .array .int
  | _ => .array .boolean
abbrev wsX80 : List Cond := u_ws RX8 TX8 20
theorem nmX8 : ∀ a, a < 20 → ∀ b, b < 20 → a ≠ b → (TX8 a).2.1 ≠ (TX8 b).2.1 := by decide +kernel
theorem tyX8_ok : ∀ k, k < 20 → parseFieldDescriptor (TX8 k).2.2.1 = some (tyX8 k) := by decide +kernel
abbrev cX8_init : ByteArray := prog_10_method_1_code
def yX8_init : MethodName := ⟨RX8, "<init>", "()V"⟩
abbrev cX8_thrown : ByteArray := prog_10_method_2_code
def yX8_thrown : MethodName := ⟨RX8, "thrown", "()I"⟩
abbrev cX8_throwing : ByteArray := prog_10_method_3_code
def yX8_throwing : MethodName := ⟨RX8, "throwing", "(ZZ)Z"⟩
abbrev cX8_isVertex : ByteArray := prog_10_method_4_code
def yX8_isVertex : MethodName := ⟨RX8, "isVertex", "(I)Z"⟩
abbrev cX8_isSet : ByteArray := prog_10_method_5_code
def yX8_isSet : MethodName := ⟨RX8, "isSet", "(J)Z"⟩
abbrev cX8_beginGroups : ByteArray := prog_10_method_6_code
def yX8_beginGroups : MethodName := ⟨RX8, "beginGroups", "()V"⟩
abbrev cX8_joins : ByteArray := prog_10_method_7_code
def yX8_joins : MethodName := ⟨RX8, "joins", "(I)Z"⟩
abbrev cX8_groups : ByteArray := prog_10_method_8_code
def yX8_groups : MethodName := ⟨RX8, "groups", "()I"⟩
abbrev cX8_dimension : ByteArray := prog_10_method_9_code
def yX8_dimension : MethodName := ⟨RX8, "dimension", "()I"⟩
abbrev cX8_reset : ByteArray := prog_10_method_10_code
def yX8_reset : MethodName := ⟨RX8, "reset", "(I)I"⟩
abbrev cX8_edge : ByteArray := prog_10_method_11_code
def yX8_edge : MethodName := ⟨RX8, "edge", "(III)I"⟩
abbrev cX8_drop : ByteArray := prog_10_method_12_code
def yX8_drop : MethodName := ⟨RX8, "drop", "()I"⟩
abbrev cX8_weightOf : ByteArray := prog_10_method_13_code
def yX8_weightOf : MethodName := ⟨RX8, "weightOf", "(J)J"⟩
abbrev cX8_beginsWith : ByteArray := prog_10_method_14_code
def yX8_beginsWith : MethodName := ⟨RX8, "beginsWith", "(J)Z"⟩
abbrev cX8_forests : ByteArray := prog_10_method_15_code
def yX8_forests : MethodName := ⟨RX8, "forests", "(J)J"⟩
abbrev cX8_isFirst : ByteArray := prog_10_method_16_code
def yX8_isFirst : MethodName := ⟨RX8, "isFirst", "(I)Z"⟩
abbrev cX8_hang : ByteArray := prog_10_method_17_code
def yX8_hang : MethodName := ⟨RX8, "hang", "(II)Z"⟩
abbrev cX8_lay : ByteArray := prog_10_method_18_code
def yX8_lay : MethodName := ⟨RX8, "lay", "(II)V"⟩
abbrev cX8_determinant : ByteArray := prog_10_method_19_code
def yX8_determinant : MethodName := ⟨RX8, "determinant", "(I)J"⟩
abbrev cX8_lightest : ByteArray := prog_10_method_20_code
def yX8_lightest : MethodName := ⟨RX8, "lightest", "(J)J"⟩
abbrev cX8_spread : ByteArray := prog_10_method_21_code
def yX8_spread : MethodName := ⟨RX8, "spread", "()I"⟩
abbrev cX8_endsAt : ByteArray := prog_10_method_22_code
def yX8_endsAt : MethodName := ⟨RX8, "endsAt", "(JI)I"⟩
abbrev cX8_isEven : ByteArray := prog_10_method_23_code
def yX8_isEven : MethodName := ⟨RX8, "isEven", "(J)Z"⟩
abbrev cX8_isRing : ByteArray := prog_10_method_24_code
def yX8_isRing : MethodName := ⟨RX8, "isRing", "(J)Z"⟩
abbrev cX8_isCycle : ByteArray := prog_10_method_25_code
def yX8_isCycle : MethodName := ⟨RX8, "isCycle", "(J)I"⟩
abbrev cX8_through : ByteArray := prog_10_method_26_code
def yX8_through : MethodName := ⟨RX8, "through", "(I)J"⟩
abbrev cX8_rest : ByteArray := prog_10_method_27_code
def yX8_rest : MethodName := ⟨RX8, "rest", "(J)J"⟩
abbrev cX8_take : ByteArray := prog_10_method_28_code
def yX8_take : MethodName := ⟨RX8, "take", "(J)Z"⟩
abbrev cX8_basis : ByteArray := prog_10_method_29_code
def yX8_basis : MethodName := ⟨RX8, "basis", "(I)J"⟩
abbrev cX8_numberOf : ByteArray := prog_10_method_30_code
def yX8_numberOf : MethodName := ⟨RX8, "numberOf", "(J)I"⟩
abbrev cX8_belongs : ByteArray := prog_10_method_31_code
def yX8_belongs : MethodName := ⟨RX8, "belongs", "(J)Z"⟩
abbrev cX8_cycles : ByteArray := prog_10_method_32_code
def yX8_cycles : MethodName := ⟨RX8, "cycles", "()I"⟩
abbrev cX8_light : ByteArray := prog_10_method_33_code
def yX8_light : MethodName := ⟨RX8, "light", "(J)I"⟩
abbrev cX8_add : ByteArray := prog_10_method_34_code
def yX8_add : MethodName := ⟨RX8, "add", "(J)I"⟩
abbrev cX8_clear : ByteArray := prog_10_method_35_code
def yX8_clear : MethodName := ⟨RX8, "clear", "()I"⟩
abbrev cX8_takeList : ByteArray := prog_10_method_36_code
def yX8_takeList : MethodName := ⟨RX8, "takeList", "()V"⟩
abbrev cX8_spans : ByteArray := prog_10_method_37_code
def yX8_spans : MethodName := ⟨RX8, "spans", "(J)Z"⟩
abbrev cX8_alone : ByteArray := prog_10_method_38_code
def yX8_alone : MethodName := ⟨RX8, "alone", "()I"⟩
abbrev cX8_areEven : ByteArray := prog_10_method_39_code
def yX8_areEven : MethodName := ⟨RX8, "areEven", "()Z"⟩
abbrev cX8_parting : ByteArray := prog_10_method_40_code
def yX8_parting : MethodName := ⟨RX8, "parting", "()I"⟩
abbrev cX8_rank : ByteArray := prog_10_method_41_code
def yX8_rank : MethodName := ⟨RX8, "rank", "()I"⟩
abbrev cX8_look : ByteArray := prog_10_method_42_code
def yX8_look : MethodName := ⟨RX8, "look", "(I)I"⟩
def RJ6 : String := "java/lang/Integer"
def TJ6 : u_T := fun k => match k with
  | _ => ("", "", "", false)
def tyJ6 : Nat → FieldType := fun k => match k with
  | _ => .int
abbrev wsJ60 : List Cond := u_ws RJ6 TJ6 0
theorem nmJ6 : ∀ a, a < 0 → ∀ b, b < 0 → a ≠ b → (TJ6 a).2.1 ≠ (TJ6 b).2.1 := by decide +kernel
theorem tyJ6_ok : ∀ k, k < 0 → parseFieldDescriptor (TJ6 k).2.2.1 = some (tyJ6 k) := by decide +kernel
abbrev cJ6_numberOfTrailingZeros_0f7a4 : ByteArray := prog_14_method_48_code
def yJ6_numberOfTrailingZeros_0f7a4 : MethodName := ⟨RJ6, "numberOfTrailingZeros", "(I)I"⟩
def RJ13 : String := "java/lang/Long"
def TJ13 : u_T := fun k => match k with
  | _ => ("", "", "", false)
def tyJ13 : Nat → FieldType := fun k => match k with
  | _ => .int
abbrev wsJ130 : List Cond := u_ws RJ13 TJ13 0
theorem nmJ13 : ∀ a, a < 0 → ∀ b, b < 0 → a ≠ b → (TJ13 a).2.1 ≠ (TJ13 b).2.1 := by decide +kernel
theorem tyJ13_ok : ∀ k, k < 0 → parseFieldDescriptor (TJ13 k).2.2.1 = some (tyJ13 k) := by decide +kernel
abbrev cJ13_numberOfTrailingZeros_95d88 : ByteArray := prog_15_method_49_code
def yJ13_numberOfTrailingZeros_95d88 : MethodName := ⟨RJ13, "numberOfTrailingZeros", "(J)I"⟩
abbrev cJ13_bitCount_95d88 : ByteArray := prog_15_method_50_code
def yJ13_bitCount_95d88 : MethodName := ⟨RJ13, "bitCount", "(J)I"⟩
def RJ0 : String := "java/lang/String"
def TJ0 : u_T := fun k => match k with
  | _ => ("", "", "", false)
def tyJ0 : Nat → FieldType := fun k => match k with
  | _ => .int
abbrev wsJ00 : List Cond := u_ws RJ0 TJ0 0
theorem nmJ0 : ∀ a, a < 0 → ∀ b, b < 0 → a ≠ b → (TJ0 a).2.1 ≠ (TJ0 b).2.1 := by decide +kernel
theorem tyJ0_ok : ∀ k, k < 0 → parseFieldDescriptor (TJ0 k).2.2.1 = some (tyJ0 k) := by decide +kernel
def RJ7 : String := "java/util/Arrays"
def TJ7 : u_T := fun k => match k with
  | _ => ("", "", "", false)
def tyJ7 : Nat → FieldType := fun k => match k with
  | _ => .int
abbrev wsJ70 : List Cond := u_ws RJ7 TJ7 0
theorem nmJ7 : ∀ a, a < 0 → ∀ b, b < 0 → a ≠ b → (TJ7 a).2.1 ≠ (TJ7 b).2.1 := by decide +kernel
theorem tyJ7_ok : ∀ k, k < 0 → parseFieldDescriptor (TJ7 k).2.2.1 = some (tyJ7 k) := by decide +kernel
abbrev cJ7_fill_d0a16 : ByteArray := prog_19_method_101_code
def yJ7_fill_d0a16 : MethodName := ⟨RJ7, "fill", "([JJ)V"⟩
abbrev cJ7_fill_53178 : ByteArray := prog_19_method_103_code
def yJ7_fill_53178 : MethodName := ⟨RJ7, "fill", "([II)V"⟩
def RL : String := "CycleHouseLaw"
abbrev cL_reset : ByteArray := method_3_code
def yL_reset : MethodName := ⟨RL, "reset", "(LCycleHouse;I[J)I"⟩
abbrev cL_edge : ByteArray := method_4_code
def yL_edge : MethodName := ⟨RL, "edge", "(LCycleHouse;III[J)I"⟩
abbrev cL_drop : ByteArray := method_5_code
def yL_drop : MethodName := ⟨RL, "drop", "(LCycleHouse;[J)I"⟩
abbrev cL_forests : ByteArray := method_6_code
def yL_forests : MethodName := ⟨RL, "forests", "(LCycleHouse;J[J)I"⟩
abbrev cL_lightest : ByteArray := method_7_code
def yL_lightest : MethodName := ⟨RL, "lightest", "(LCycleHouse;J[J)I"⟩
abbrev cL_isCycle : ByteArray := method_8_code
def yL_isCycle : MethodName := ⟨RL, "isCycle", "(LCycleHouse;J[J)I"⟩
abbrev cL_through : ByteArray := method_9_code
def yL_through : MethodName := ⟨RL, "through", "(LCycleHouse;I[J)I"⟩
abbrev cL_basis : ByteArray := method_10_code
def yL_basis : MethodName := ⟨RL, "basis", "(LCycleHouse;I[J)I"⟩
abbrev cL_belongs : ByteArray := method_11_code
def yL_belongs : MethodName := ⟨RL, "belongs", "(LCycleHouse;J[J)I"⟩
abbrev cL_add : ByteArray := method_12_code
def yL_add : MethodName := ⟨RL, "add", "(LCycleHouse;J[J)I"⟩
abbrev cL_spans : ByteArray := method_13_code
def yL_spans : MethodName := ⟨RL, "spans", "(LCycleHouse;J[J)I"⟩
abbrev cL_look : ByteArray := method_14_code
def yL_look : MethodName := ⟨RL, "look", "(LCycleHouse;I[J)I"⟩
abbrev cL_law : ByteArray := code
def yL_law : MethodName := ⟨RL, "law", "([I)Z"⟩
def wsX0_init : List Cond := .code yX0_init cX0_init 1 none :: ([.methodLink RX0 3 objectInit, .instanceMethod objectInit, .code objectInit ⟨#[0xb1]⟩ 1 none, .classLink RX0 9 "[[I", .arrayClass .int, .fieldLink RX0 11 "CycleHouse$CycleCount" "between" "[[I"] ++ wsX00)
def wsJ7_fill_53178 : List Cond := .code yJ7_fill_53178 cJ7_fill_53178 4 none :: ([])
def wsX0_paths : List Cond := .code yX0_paths cX0_paths 7 (some .int) :: ([.methodLink RX0 35 yX0_paths, .static yX0_paths, .initialized RX0])
def wsX0_count : List Cond := .code yX0_count cX0_count 6 (some .int) :: ([.fieldLink RX0 11 "CycleHouse$CycleCount" "between" "[[I", .methodLink RX0 16 yJ7_fill_53178, .static yJ7_fill_53178, .initialized RJ7, .code yJ7_fill_53178 cJ7_fill_53178 4 none, .methodLink RX0 35 yX0_paths, .static yX0_paths, .initialized RX0, .code yX0_paths cX0_paths 7 (some .int)] ++ wsX00 ++ wsX20)
def wsX1_init : List Cond := .code yX1_init cX1_init 1 none :: ([.methodLink RX1 3 objectInit, .instanceMethod objectInit, .code objectInit ⟨#[0xb1]⟩ 1 none, .classLink RX1 9 "[[J", .arrayClass .long, .fieldLink RX1 11 "CycleHouse$ForestCount" "table" "[[J"] ++ wsX10)
def wsJ7_fill_d0a16 : List Cond := .code yJ7_fill_d0a16 cJ7_fill_d0a16 5 none :: ([])
def wsX1_eliminate : List Cond := .code yX1_eliminate cX1_eliminate 7 none :: ([.fieldLink RX1 11 "CycleHouse$ForestCount" "table" "[[J"] ++ wsX10)
def wsX1_determinant : List Cond := .code yX1_determinant cX1_determinant 7 (some .long) :: ([.fieldLink RX1 11 "CycleHouse$ForestCount" "table" "[[J", .methodLink RX1 47 yX1_eliminate, .instanceMethod yX1_eliminate, .selects RX1 yX1_eliminate yX1_eliminate, .initialized RX1, .code yX1_eliminate cX1_eliminate 7 none] ++ wsX10)
def wsX1_count : List Cond := .code yX1_count cX1_count 6 (some .long) :: ([.fieldLink RX1 11 "CycleHouse$ForestCount" "table" "[[J", .methodLink RX1 22 yJ7_fill_d0a16, .static yJ7_fill_d0a16, .initialized RJ7, .code yJ7_fill_d0a16 cJ7_fill_d0a16 5 none, .methodLink RX1 43 yX1_determinant, .instanceMethod yX1_determinant, .selects RX1 yX1_determinant yX1_determinant, .initialized RX1, .code yX1_determinant cX1_determinant 7 (some .long), .methodLink RX1 47 yX1_eliminate, .instanceMethod yX1_eliminate, .selects RX1 yX1_eliminate yX1_eliminate, .code yX1_eliminate cX1_eliminate 7 none] ++ wsX20 ++ wsX10 ++ wsX30)
def wsX2_init : List Cond := .code yX2_init cX2_init 1 none :: ([.methodLink RX2 3 objectInit, .instanceMethod objectInit, .code objectInit ⟨#[0xb1]⟩ 1 none, .fieldLink RX2 9 "CycleHouse$Graph" "vertices" "I", .arrayClass .int, .fieldLink RX2 15 "CycleHouse$Graph" "from" "[I", .fieldLink RX2 19 "CycleHouse$Graph" "to" "[I", .fieldLink RX2 22 "CycleHouse$Graph" "weight" "[I"] ++ wsX20)
def wsX2_begin : List Cond := .code yX2_begin cX2_begin 2 none :: ([.fieldLink RX2 9 "CycleHouse$Graph" "vertices" "I", .fieldLink RX2 25 "CycleHouse$Graph" "edges" "I"] ++ wsX20)
def wsX2_hasVertex : List Cond := .code yX2_hasVertex cX2_hasVertex 2 (some .boolean) :: ([.fieldLink RX2 9 "CycleHouse$Graph" "vertices" "I"] ++ wsX20)
def wsX2_append : List Cond := .code yX2_append cX2_append 5 (some .int) :: ([.fieldLink RX2 25 "CycleHouse$Graph" "edges" "I", .fieldLink RX2 15 "CycleHouse$Graph" "from" "[I", .fieldLink RX2 19 "CycleHouse$Graph" "to" "[I", .fieldLink RX2 22 "CycleHouse$Graph" "weight" "[I"] ++ wsX20)
def wsX2_removeLast : List Cond := .code yX2_removeLast cX2_removeLast 1 (some .int) :: ([.fieldLink RX2 25 "CycleHouse$Graph" "edges" "I"] ++ wsX20)
def wsX7_has : List Cond := .code yX7_has cX7_has 3 (some .boolean) :: ([])
def wsX2_isEven : List Cond := .code yX2_isEven cX2_isEven 5 (some .boolean) :: ([.fieldLink RX2 25 "CycleHouse$Graph" "edges" "I", .fieldLink RX2 15 "CycleHouse$Graph" "from" "[I", .fieldLink RX2 19 "CycleHouse$Graph" "to" "[I", .static yX7_has, .initialized RX7, .code yX7_has cX7_has 3 (some .boolean)] ++ wsX20)
def wsJ13_bitCount_95d88 : List Cond := .code yJ13_bitCount_95d88 cJ13_bitCount_95d88 2 (some .int) :: ([.constantLong RJ13 314 (6148914691236517205), .constantLong RJ13 316 (3689348814741910323), .constantLong RJ13 318 (1085102592571150095)])
def wsJ6_numberOfTrailingZeros_0f7a4 : List Cond := .code yJ6_numberOfTrailingZeros_0f7a4 cJ6_numberOfTrailingZeros_0f7a4 2 (some .int) :: ([.constant RJ6 264 (65536)])
def wsJ13_numberOfTrailingZeros_95d88 : List Cond := .code yJ13_numberOfTrailingZeros_95d88 cJ13_numberOfTrailingZeros_95d88 3 (some .int) :: ([.methodLink RJ13 311 yJ6_numberOfTrailingZeros_0f7a4, .static yJ6_numberOfTrailingZeros_0f7a4, .initialized RJ6, .code yJ6_numberOfTrailingZeros_0f7a4 cJ6_numberOfTrailingZeros_0f7a4 2 (some .int), .constant RJ6 264 (65536)])
def wsX2_gain : List Cond := .code yX2_gain cX2_gain 11 (some .long) :: ([.fieldLink RX2 22 "CycleHouse$Graph" "weight" "[I", .methodLink RX2 36 yJ13_bitCount_95d88, .static yJ13_bitCount_95d88, .initialized RJ13, .code yJ13_bitCount_95d88 cJ13_bitCount_95d88 2 (some .int), .constantLong RJ13 314 (6148914691236517205), .constantLong RJ13 316 (3689348814741910323), .constantLong RJ13 318 (1085102592571150095), .methodLink RX2 42 yJ13_numberOfTrailingZeros_95d88, .static yJ13_numberOfTrailingZeros_95d88, .code yJ13_numberOfTrailingZeros_95d88 cJ13_numberOfTrailingZeros_95d88 3 (some .int), .methodLink RJ13 311 yJ6_numberOfTrailingZeros_0f7a4, .static yJ6_numberOfTrailingZeros_0f7a4, .initialized RJ6, .code yJ6_numberOfTrailingZeros_0f7a4 cJ6_numberOfTrailingZeros_0f7a4 2 (some .int), .constant RJ6 264 (65536), .static yX7_has, .initialized RX7, .code yX7_has cX7_has 3 (some .boolean)] ++ wsX20)
def wsX2_weigh : List Cond := .code yX2_weigh cX2_weigh 3 (some .long) :: ([.methodLink RX2 32 yX2_gain, .instanceMethod yX2_gain, .selects RX2 yX2_gain yX2_gain, .initialized RX2, .code yX2_gain cX2_gain 11 (some .long), .fieldLink RX2 22 "CycleHouse$Graph" "weight" "[I", .methodLink RX2 36 yJ13_bitCount_95d88, .static yJ13_bitCount_95d88, .initialized RJ13, .code yJ13_bitCount_95d88 cJ13_bitCount_95d88 2 (some .int), .constantLong RJ13 314 (6148914691236517205), .constantLong RJ13 316 (3689348814741910323), .constantLong RJ13 318 (1085102592571150095), .methodLink RX2 42 yJ13_numberOfTrailingZeros_95d88, .static yJ13_numberOfTrailingZeros_95d88, .code yJ13_numberOfTrailingZeros_95d88 cJ13_numberOfTrailingZeros_95d88 3 (some .int), .methodLink RJ13 311 yJ6_numberOfTrailingZeros_0f7a4, .static yJ6_numberOfTrailingZeros_0f7a4, .initialized RJ6, .code yJ6_numberOfTrailingZeros_0f7a4 cJ6_numberOfTrailingZeros_0f7a4 2 (some .int), .constant RJ6 264 (65536), .static yX7_has, .initialized RX7, .code yX7_has cX7_has 3 (some .boolean)] ++ wsX20)
def wsX2_edgesApartFrom : List Cond := .code yX2_edgesApartFrom cX2_edgesApartFrom 5 (some .long) :: ([.fieldLink RX2 25 "CycleHouse$Graph" "edges" "I", .fieldLink RX2 15 "CycleHouse$Graph" "from" "[I", .fieldLink RX2 19 "CycleHouse$Graph" "to" "[I"] ++ wsX20)
def wsX3_init : List Cond := .code yX3_init cX3_init 1 none :: ([.methodLink RX3 3 objectInit, .instanceMethod objectInit, .code objectInit ⟨#[0xb1]⟩ 1 none, .arrayClass .int, .fieldLink RX3 9 "CycleHouse$Groups" "name" "[I", .arrayClass .long, .fieldLink RX3 15 "CycleHouse$Groups" "way" "[J"] ++ wsX30)
def wsX3_part : List Cond := .code yX3_part cX3_part 3 none :: ([.fieldLink RX3 19 "CycleHouse$Groups" "vertices" "I", .fieldLink RX3 23 "CycleHouse$Groups" "count" "I", .fieldLink RX3 9 "CycleHouse$Groups" "name" "[I", .fieldLink RX3 15 "CycleHouse$Groups" "way" "[J"] ++ wsX30)
def wsX3_together : List Cond := .code yX3_together cX3_together 3 (some .boolean) :: ([.fieldLink RX3 9 "CycleHouse$Groups" "name" "[I"] ++ wsX30)
def wsX3_merge : List Cond := .code yX3_merge cX3_merge 6 none :: ([.fieldLink RX3 19 "CycleHouse$Groups" "vertices" "I", .fieldLink RX3 9 "CycleHouse$Groups" "name" "[I", .fieldLink RX3 15 "CycleHouse$Groups" "way" "[J", .fieldLink RX3 23 "CycleHouse$Groups" "count" "I"] ++ wsX30)
def wsX3_join : List Cond := .code yX3_join cX3_join 7 (some .long) :: ([.fieldLink RX3 15 "CycleHouse$Groups" "way" "[J", .fieldLink RX3 9 "CycleHouse$Groups" "name" "[I", .methodLink RX3 34 yX3_together, .instanceMethod yX3_together, .selects RX3 yX3_together yX3_together, .initialized RX3, .code yX3_together cX3_together 3 (some .boolean), .methodLink RX3 38 yX3_merge, .instanceMethod yX3_merge, .selects RX3 yX3_merge yX3_merge, .code yX3_merge cX3_merge 6 none, .fieldLink RX3 19 "CycleHouse$Groups" "vertices" "I", .fieldLink RX3 23 "CycleHouse$Groups" "count" "I"] ++ wsX20 ++ wsX30)
def wsX4_init : List Cond := .code yX4_init cX4_init 1 none :: ([.methodLink RX4 3 objectInit, .instanceMethod objectInit, .code objectInit ⟨#[0xb1]⟩ 1 none, .arrayClass .long, .fieldLink RX4 9 "CycleHouse$LightBasis" "ring" "[J", .fieldLink RX4 15 "CycleHouse$LightBasis" "weight" "[J", .fieldLink RX4 18 "CycleHouse$LightBasis" "left" "[J", .fieldLink RX4 21 "CycleHouse$LightBasis" "leftWeight" "[J"] ++ wsX40)
def wsX6_shorten : List Cond := .code yX6_shorten cX6_shorten 5 (some .boolean) :: ([.fieldLink RX6 9 "CycleHouse$Ways" "length" "[J", .fieldLink RX6 15 "CycleHouse$Ways" "way" "[J"] ++ wsX60)
def wsX6_shortenAll : List Cond := .code yX6_shortenAll cX6_shortenAll 7 (some .boolean) :: ([.methodLink RX6 43 yX6_shorten, .instanceMethod yX6_shorten, .selects RX6 yX6_shorten yX6_shorten, .initialized RX6, .code yX6_shorten cX6_shorten 5 (some .boolean), .fieldLink RX6 9 "CycleHouse$Ways" "length" "[J", .fieldLink RX6 15 "CycleHouse$Ways" "way" "[J"] ++ wsX20 ++ wsX60)
def wsX6_seek : List Cond := .code yX6_seek cX6_seek 6 none :: ([.fieldLink RX6 9 "CycleHouse$Ways" "length" "[J", .constantLong RX6 24 (1152921504606846976), .fieldLink RX6 15 "CycleHouse$Ways" "way" "[J", .methodLink RX6 26 yX6_shortenAll, .instanceMethod yX6_shortenAll, .selects RX6 yX6_shortenAll yX6_shortenAll, .initialized RX6, .code yX6_shortenAll cX6_shortenAll 7 (some .boolean), .methodLink RX6 43 yX6_shorten, .instanceMethod yX6_shorten, .selects RX6 yX6_shorten yX6_shorten, .code yX6_shorten cX6_shorten 5 (some .boolean)] ++ wsX20 ++ wsX60)
def wsX6_reaches : List Cond := .code yX6_reaches cX6_reaches 2 (some .boolean) :: ([.fieldLink RX6 9 "CycleHouse$Ways" "length" "[J", .constantLong RX6 24 (1152921504606846976)] ++ wsX60)
def wsX4_gather : List Cond := .code yX4_gather cX4_gather 8 none :: ([.fieldLink RX4 18 "CycleHouse$LightBasis" "left" "[J", .fieldLink RX4 44 "CycleHouse$LightBasis" "candidates" "I", .fieldLink RX4 21 "CycleHouse$LightBasis" "leftWeight" "[J", .methodLink RX4 75 yX6_reaches, .instanceMethod yX6_reaches, .selects RX6 yX6_reaches yX6_reaches, .initialized RX6, .code yX6_reaches cX6_reaches 2 (some .boolean), .fieldLink RX6 9 "CycleHouse$Ways" "length" "[J", .constantLong RX6 24 (1152921504606846976)] ++ wsX20 ++ wsX60 ++ wsX40)
def wsX4_gatherAll_r1 : List Cond := [Cond.fieldLink RX4 44 "CycleHouse$LightBasis" "candidates" "I", Cond.methodLink RX4 52 yX6_seek, Cond.instanceMethod yX6_seek, Cond.selects RX6 yX6_seek yX6_seek, Cond.initialized RX6, Cond.code yX6_seek cX6_seek 6 none, Cond.fieldLink RX6 9 "CycleHouse$Ways" "length" "[J", Cond.constantLong RX6 24 (1152921504606846976), Cond.fieldLink RX6 15 "CycleHouse$Ways" "way" "[J", Cond.methodLink RX6 26 yX6_shortenAll, Cond.instanceMethod yX6_shortenAll, Cond.selects RX6 yX6_shortenAll yX6_shortenAll, Cond.code yX6_shortenAll cX6_shortenAll 7 (some .boolean), Cond.methodLink RX6 43 yX6_shorten, Cond.instanceMethod yX6_shorten, Cond.selects RX6 yX6_shorten yX6_shorten, Cond.code yX6_shorten cX6_shorten 5 (some .boolean), Cond.methodLink RX4 61 yX4_gather, Cond.instanceMethod yX4_gather, Cond.selects RX4 yX4_gather yX4_gather, Cond.initialized RX4, Cond.code yX4_gather cX4_gather 8 none, Cond.fieldLink RX4 18 "CycleHouse$LightBasis" "left" "[J", Cond.fieldLink RX4 21 "CycleHouse$LightBasis" "leftWeight" "[J"]
def wsX4_gatherAll_r2 : List Cond := [Cond.methodLink RX4 75 yX6_reaches, Cond.instanceMethod yX6_reaches, Cond.selects RX6 yX6_reaches yX6_reaches, Cond.code yX6_reaches cX6_reaches 2 (some .boolean)]
def wsX4_gatherAll : List Cond := .code yX4_gatherAll cX4_gatherAll 5 none :: ((wsX4_gatherAll_r1 ++ wsX4_gatherAll_r2) ++ wsX40 ++ wsX20 ++ wsX60)
def wsX4_lightestLeft : List Cond := .code yX4_lightestLeft cX4_lightestLeft 3 (some .int) :: ([.fieldLink RX4 44 "CycleHouse$LightBasis" "candidates" "I", .fieldLink RX4 18 "CycleHouse$LightBasis" "left" "[J", .fieldLink RX4 21 "CycleHouse$LightBasis" "leftWeight" "[J"] ++ wsX40)
def wsX4_mark : List Cond := .code yX4_mark cX4_mark 2 (some .long) :: ([])
def wsX4_strike : List Cond := .code yX4_strike cX4_strike 4 none :: ([.fieldLink RX4 44 "CycleHouse$LightBasis" "candidates" "I", .fieldLink RX4 18 "CycleHouse$LightBasis" "left" "[J", .methodLink RX4 40 yX4_mark, .static yX4_mark, .initialized RX4, .code yX4_mark cX4_mark 2 (some .long)] ++ wsX40)
def wsX4_find_r1 : List Cond := [Cond.fieldLink RX4 28 "CycleHouse$LightBasis" "size" "I", Cond.fieldLink RX4 9 "CycleHouse$LightBasis" "ring" "[J", Cond.fieldLink RX4 18 "CycleHouse$LightBasis" "left" "[J", Cond.fieldLink RX4 15 "CycleHouse$LightBasis" "weight" "[J", Cond.fieldLink RX4 21 "CycleHouse$LightBasis" "leftWeight" "[J", Cond.methodLink RX4 24 yX4_gatherAll, Cond.instanceMethod yX4_gatherAll, Cond.selects RX4 yX4_gatherAll yX4_gatherAll, Cond.initialized RX4, Cond.code yX4_gatherAll cX4_gatherAll 5 none, Cond.fieldLink RX4 44 "CycleHouse$LightBasis" "candidates" "I", Cond.methodLink RX4 52 yX6_seek, Cond.instanceMethod yX6_seek, Cond.selects RX6 yX6_seek yX6_seek, Cond.initialized RX6, Cond.code yX6_seek cX6_seek 6 none, Cond.fieldLink RX6 9 "CycleHouse$Ways" "length" "[J", Cond.constantLong RX6 24 (1152921504606846976), Cond.fieldLink RX6 15 "CycleHouse$Ways" "way" "[J", Cond.methodLink RX6 26 yX6_shortenAll, Cond.instanceMethod yX6_shortenAll, Cond.selects RX6 yX6_shortenAll yX6_shortenAll, Cond.code yX6_shortenAll cX6_shortenAll 7 (some .boolean), Cond.methodLink RX6 43 yX6_shorten]
def wsX4_find_r2 : List Cond := [Cond.instanceMethod yX6_shorten, Cond.selects RX6 yX6_shorten yX6_shorten, Cond.code yX6_shorten cX6_shorten 5 (some .boolean), Cond.methodLink RX4 61 yX4_gather, Cond.instanceMethod yX4_gather, Cond.selects RX4 yX4_gather yX4_gather, Cond.code yX4_gather cX4_gather 8 none, Cond.methodLink RX4 75 yX6_reaches, Cond.instanceMethod yX6_reaches, Cond.selects RX6 yX6_reaches yX6_reaches, Cond.code yX6_reaches cX6_reaches 2 (some .boolean), Cond.methodLink RX4 32 yX4_lightestLeft, Cond.instanceMethod yX4_lightestLeft, Cond.selects RX4 yX4_lightestLeft yX4_lightestLeft, Cond.code yX4_lightestLeft cX4_lightestLeft 3 (some .int), Cond.methodLink RX4 36 yX4_strike, Cond.instanceMethod yX4_strike, Cond.selects RX4 yX4_strike yX4_strike, Cond.code yX4_strike cX4_strike 4 none, Cond.methodLink RX4 40 yX4_mark, Cond.static yX4_mark, Cond.code yX4_mark cX4_mark 2 (some .long)]
def wsX4_find : List Cond := .code yX4_find cX4_find 4 none :: ((wsX4_find_r1 ++ wsX4_find_r2) ++ wsX40 ++ wsX20 ++ wsX60)
def wsX4_isSumOfLighter : List Cond := .code yX4_isSumOfLighter cX4_isSumOfLighter 8 (some .boolean) :: ([.fieldLink RX4 28 "CycleHouse$LightBasis" "size" "I", .fieldLink RX4 15 "CycleHouse$LightBasis" "weight" "[J", .fieldLink RX4 9 "CycleHouse$LightBasis" "ring" "[J", .methodLink RX4 40 yX4_mark, .static yX4_mark, .initialized RX4, .code yX4_mark cX4_mark 2 (some .long)] ++ wsX40)
def wsX5_init : List Cond := .code yX5_init cX5_init 1 none :: ([.methodLink RX5 3 objectInit, .instanceMethod objectInit, .code objectInit ⟨#[0xb1]⟩ 1 none, .arrayClass .long, .fieldLink RX5 9 "CycleHouse$SetList" "row" "[J"] ++ wsX50)
def wsX5_rest : List Cond := .code yX5_rest cX5_rest 6 (some .long) :: ([.fieldLink RX5 9 "CycleHouse$SetList" "row" "[J", .static yX7_has, .initialized RX7, .code yX7_has cX7_has 3 (some .boolean)] ++ wsX50)
def wsX5_append : List Cond := .code yX5_append cX5_append 5 (some .int) :: ([.fieldLink RX5 9 "CycleHouse$SetList" "row" "[J", .fieldLink RX5 25 "CycleHouse$SetList" "rank" "I", .fieldLink RX5 29 "CycleHouse$SetList" "sets" "I", .methodLink RX5 15 yX5_rest, .instanceMethod yX5_rest, .selects RX5 yX5_rest yX5_rest, .initialized RX5, .code yX5_rest cX5_rest 6 (some .long), .static yX7_has, .initialized RX7, .code yX7_has cX7_has 3 (some .boolean), .methodLink RX5 19 yJ13_numberOfTrailingZeros_95d88, .static yJ13_numberOfTrailingZeros_95d88, .initialized RJ13, .code yJ13_numberOfTrailingZeros_95d88 cJ13_numberOfTrailingZeros_95d88 3 (some .int), .methodLink RJ13 311 yJ6_numberOfTrailingZeros_0f7a4, .static yJ6_numberOfTrailingZeros_0f7a4, .initialized RJ6, .code yJ6_numberOfTrailingZeros_0f7a4 cJ6_numberOfTrailingZeros_0f7a4 2 (some .int), .constant RJ6 264 (65536)] ++ wsX50)
def wsX5_empty : List Cond := .code yX5_empty cX5_empty 1 none :: ([.fieldLink RX5 29 "CycleHouse$SetList" "sets" "I", .fieldLink RX5 25 "CycleHouse$SetList" "rank" "I", .fieldLink RX5 9 "CycleHouse$SetList" "row" "[J", .methodLink RX5 32 yJ7_fill_d0a16, .static yJ7_fill_d0a16, .initialized RJ7, .code yJ7_fill_d0a16 cJ7_fill_d0a16 5 none] ++ wsX50)
def wsX6_init : List Cond := .code yX6_init cX6_init 1 none :: ([.methodLink RX6 3 objectInit, .instanceMethod objectInit, .code objectInit ⟨#[0xb1]⟩ 1 none, .arrayClass .long, .fieldLink RX6 9 "CycleHouse$Ways" "length" "[J", .fieldLink RX6 15 "CycleHouse$Ways" "way" "[J"] ++ wsX60)
def wsX7_init_r1 : List Cond := [Cond.methodLink RX7 1 objectInit, Cond.instanceMethod objectInit, Cond.code objectInit ⟨#[0xb1]⟩ 1 none, Cond.classLink RX7 7 RX2, Cond.instantiable RX2 5, Cond.initialized RX2, Cond.fieldLink RX7 10 "CycleHouse" "graph" "LCycleHouse$Graph;", Cond.classLink RX7 16 RX5, Cond.instantiable RX5 3, Cond.initialized RX5, Cond.fieldLink RX7 19 "CycleHouse" "list" "LCycleHouse$SetList;", Cond.classLink RX7 23 RX3, Cond.instantiable RX3 4, Cond.initialized RX3, Cond.fieldLink RX7 26 "CycleHouse" "groups" "LCycleHouse$Groups;", Cond.classLink RX7 30 RX6, Cond.instantiable RX6 2, Cond.initialized RX6, Cond.fieldLink RX7 33 "CycleHouse" "ways" "LCycleHouse$Ways;", Cond.classLink RX7 37 RX4, Cond.instantiable RX4 6, Cond.initialized RX4, Cond.fieldLink RX7 40 "CycleHouse" "lightBasis" "LCycleHouse$LightBasis;", Cond.classLink RX7 44 RX1]
def wsX7_init_r2 : List Cond := [Cond.instantiable RX1 1, Cond.initialized RX1, Cond.fieldLink RX7 47 "CycleHouse" "forestCount" "LCycleHouse$ForestCount;", Cond.classLink RX7 51 RX0, Cond.instantiable RX0 1, Cond.initialized RX0, Cond.fieldLink RX7 54 "CycleHouse" "cycleCount" "LCycleHouse$CycleCount;", Cond.arrayClass .long, Cond.fieldLink RX7 58 "CycleHouse" "rings" "[J", Cond.methodLink RX7 9 yX2_init, Cond.instanceMethod yX2_init, Cond.code yX2_init cX2_init 1 none, Cond.methodLink RX2 3 objectInit, Cond.fieldLink RX2 9 "CycleHouse$Graph" "vertices" "I", Cond.arrayClass .int, Cond.fieldLink RX2 15 "CycleHouse$Graph" "from" "[I", Cond.fieldLink RX2 19 "CycleHouse$Graph" "to" "[I", Cond.fieldLink RX2 22 "CycleHouse$Graph" "weight" "[I", Cond.methodLink RX7 18 yX5_init, Cond.instanceMethod yX5_init, Cond.code yX5_init cX5_init 1 none, Cond.methodLink RX5 3 objectInit, Cond.fieldLink RX5 9 "CycleHouse$SetList" "row" "[J", Cond.methodLink RX7 25 yX3_init]
def wsX7_init_r3 : List Cond := [Cond.instanceMethod yX3_init, Cond.code yX3_init cX3_init 1 none, Cond.methodLink RX3 3 objectInit, Cond.fieldLink RX3 9 "CycleHouse$Groups" "name" "[I", Cond.fieldLink RX3 15 "CycleHouse$Groups" "way" "[J", Cond.methodLink RX7 32 yX6_init, Cond.instanceMethod yX6_init, Cond.code yX6_init cX6_init 1 none, Cond.methodLink RX6 3 objectInit, Cond.fieldLink RX6 9 "CycleHouse$Ways" "length" "[J", Cond.fieldLink RX6 15 "CycleHouse$Ways" "way" "[J", Cond.methodLink RX7 39 yX4_init, Cond.instanceMethod yX4_init, Cond.code yX4_init cX4_init 1 none, Cond.methodLink RX4 3 objectInit, Cond.fieldLink RX4 9 "CycleHouse$LightBasis" "ring" "[J", Cond.fieldLink RX4 15 "CycleHouse$LightBasis" "weight" "[J", Cond.fieldLink RX4 18 "CycleHouse$LightBasis" "left" "[J", Cond.fieldLink RX4 21 "CycleHouse$LightBasis" "leftWeight" "[J", Cond.methodLink RX7 46 yX1_init, Cond.instanceMethod yX1_init, Cond.code yX1_init cX1_init 1 none, Cond.methodLink RX1 3 objectInit, Cond.classLink RX1 9 "[[J"]
def wsX7_init_r4 : List Cond := [Cond.fieldLink RX1 11 "CycleHouse$ForestCount" "table" "[[J", Cond.methodLink RX7 53 yX0_init, Cond.instanceMethod yX0_init, Cond.code yX0_init cX0_init 1 none, Cond.methodLink RX0 3 objectInit, Cond.classLink RX0 9 "[[I", Cond.fieldLink RX0 11 "CycleHouse$CycleCount" "between" "[[I"]
def wsX7_init : List Cond := .code yX7_init cX7_init 1 none :: ((wsX7_init_r1 ++ (wsX7_init_r2 ++ (wsX7_init_r3 ++ wsX7_init_r4))) ++ wsX20 ++ wsX70 ++ wsX50 ++ wsX30 ++ wsX60 ++ wsX40 ++ wsX10 ++ wsX00)
def wsX7_joinSet_r1 : List Cond := [Cond.fieldLink RX7 26 "CycleHouse" "groups" "LCycleHouse$Groups;", Cond.fieldLink RX7 10 "CycleHouse" "graph" "LCycleHouse$Graph;", Cond.methodLink RX7 230 yX3_part, Cond.instanceMethod yX3_part, Cond.selects RX3 yX3_part yX3_part, Cond.initialized RX3, Cond.code yX3_part cX3_part 3 none, Cond.fieldLink RX3 19 "CycleHouse$Groups" "vertices" "I", Cond.fieldLink RX3 23 "CycleHouse$Groups" "count" "I", Cond.fieldLink RX3 9 "CycleHouse$Groups" "name" "[I", Cond.fieldLink RX3 15 "CycleHouse$Groups" "way" "[J", Cond.methodLink RX7 233 yX7_has, Cond.static yX7_has, Cond.initialized RX7, Cond.code yX7_has cX7_has 3 (some .boolean), Cond.methodLink RX7 237 yX3_join, Cond.instanceMethod yX3_join, Cond.selects RX3 yX3_join yX3_join, Cond.code yX3_join cX3_join 7 (some .long), Cond.methodLink RX3 34 yX3_together, Cond.instanceMethod yX3_together, Cond.selects RX3 yX3_together yX3_together, Cond.code yX3_together cX3_together 3 (some .boolean), Cond.methodLink RX3 38 yX3_merge]
def wsX7_joinSet_r2 : List Cond := [Cond.instanceMethod yX3_merge, Cond.selects RX3 yX3_merge yX3_merge, Cond.code yX3_merge cX3_merge 6 none]
def wsX7_joinSet : List Cond := .code yX7_joinSet cX7_joinSet 5 (some .int) :: ((wsX7_joinSet_r1 ++ wsX7_joinSet_r2) ++ wsX70 ++ wsX20 ++ wsX30)
def wsX7_joinWhole_r1 : List Cond := [Cond.fieldLink RX7 10 "CycleHouse" "graph" "LCycleHouse$Graph;", Cond.methodLink RX7 114 yX7_joinSet, Cond.instanceMethod yX7_joinSet, Cond.selects RX7 yX7_joinSet yX7_joinSet, Cond.initialized RX7, Cond.code yX7_joinSet cX7_joinSet 5 (some .int), Cond.fieldLink RX7 26 "CycleHouse" "groups" "LCycleHouse$Groups;", Cond.methodLink RX7 230 yX3_part, Cond.instanceMethod yX3_part, Cond.selects RX3 yX3_part yX3_part, Cond.initialized RX3, Cond.code yX3_part cX3_part 3 none, Cond.fieldLink RX3 19 "CycleHouse$Groups" "vertices" "I", Cond.fieldLink RX3 23 "CycleHouse$Groups" "count" "I", Cond.fieldLink RX3 9 "CycleHouse$Groups" "name" "[I", Cond.fieldLink RX3 15 "CycleHouse$Groups" "way" "[J", Cond.methodLink RX7 233 yX7_has, Cond.static yX7_has, Cond.code yX7_has cX7_has 3 (some .boolean), Cond.methodLink RX7 237 yX3_join, Cond.instanceMethod yX3_join, Cond.selects RX3 yX3_join yX3_join, Cond.code yX3_join cX3_join 7 (some .long), Cond.methodLink RX3 34 yX3_together]
def wsX7_joinWhole_r2 : List Cond := [Cond.instanceMethod yX3_together, Cond.selects RX3 yX3_together yX3_together, Cond.code yX3_together cX3_together 3 (some .boolean), Cond.methodLink RX3 38 yX3_merge, Cond.instanceMethod yX3_merge, Cond.selects RX3 yX3_merge yX3_merge, Cond.code yX3_merge cX3_merge 6 none]
def wsX7_joinWhole : List Cond := .code yX7_joinWhole cX7_joinWhole 1 (some .int) :: ((wsX7_joinWhole_r1 ++ wsX7_joinWhole_r2) ++ wsX70 ++ wsX20 ++ wsX30)
def wsX7_edge_r1 : List Cond := [Cond.classLink RX7 62 "java/lang/IllegalArgumentException", Cond.initialized "java/lang/IllegalArgumentException", Cond.classLink RX7 86 "java/lang/IllegalStateException", Cond.initialized "java/lang/IllegalStateException", Cond.fieldLink RX7 10 "CycleHouse" "graph" "LCycleHouse$Graph;", Cond.constant RX7 83 (1000000000), Cond.fieldLink RX7 26 "CycleHouse" "groups" "LCycleHouse$Groups;", Cond.methodLink RX7 77 yX2_hasVertex, Cond.instanceMethod yX2_hasVertex, Cond.selects RX2 yX2_hasVertex yX2_hasVertex, Cond.initialized RX2, Cond.code yX2_hasVertex cX2_hasVertex 2 (some .boolean), Cond.fieldLink RX2 9 "CycleHouse$Graph" "vertices" "I", Cond.methodLink RX7 91 yX7_joinWhole, Cond.instanceMethod yX7_joinWhole, Cond.selects RX7 yX7_joinWhole yX7_joinWhole, Cond.initialized RX7, Cond.code yX7_joinWhole cX7_joinWhole 1 (some .int), Cond.methodLink RX7 114 yX7_joinSet, Cond.instanceMethod yX7_joinSet, Cond.selects RX7 yX7_joinSet yX7_joinSet, Cond.code yX7_joinSet cX7_joinSet 5 (some .int), Cond.methodLink RX7 230 yX3_part, Cond.instanceMethod yX3_part]
def wsX7_edge_r2 : List Cond := [Cond.selects RX3 yX3_part yX3_part, Cond.initialized RX3, Cond.code yX3_part cX3_part 3 none, Cond.fieldLink RX3 19 "CycleHouse$Groups" "vertices" "I", Cond.fieldLink RX3 23 "CycleHouse$Groups" "count" "I", Cond.fieldLink RX3 9 "CycleHouse$Groups" "name" "[I", Cond.fieldLink RX3 15 "CycleHouse$Groups" "way" "[J", Cond.methodLink RX7 233 yX7_has, Cond.static yX7_has, Cond.code yX7_has cX7_has 3 (some .boolean), Cond.methodLink RX7 237 yX3_join, Cond.instanceMethod yX3_join, Cond.selects RX3 yX3_join yX3_join, Cond.code yX3_join cX3_join 7 (some .long), Cond.methodLink RX3 34 yX3_together, Cond.instanceMethod yX3_together, Cond.selects RX3 yX3_together yX3_together, Cond.code yX3_together cX3_together 3 (some .boolean), Cond.methodLink RX3 38 yX3_merge, Cond.instanceMethod yX3_merge, Cond.selects RX3 yX3_merge yX3_merge, Cond.code yX3_merge cX3_merge 6 none, Cond.methodLink RX7 95 yX3_together, Cond.methodLink RX7 101 yX2_append]
def wsX7_edge_r3 : List Cond := [Cond.instanceMethod yX2_append, Cond.selects RX2 yX2_append yX2_append, Cond.code yX2_append cX2_append 5 (some .int), Cond.fieldLink RX2 25 "CycleHouse$Graph" "edges" "I", Cond.fieldLink RX2 15 "CycleHouse$Graph" "from" "[I", Cond.fieldLink RX2 19 "CycleHouse$Graph" "to" "[I", Cond.fieldLink RX2 22 "CycleHouse$Graph" "weight" "[I"]
def wsX7_forests_r1 : List Cond := [Cond.fieldLink RX7 47 "CycleHouse" "forestCount" "LCycleHouse$ForestCount;", Cond.fieldLink RX7 10 "CycleHouse" "graph" "LCycleHouse$Graph;", Cond.fieldLink RX7 26 "CycleHouse" "groups" "LCycleHouse$Groups;", Cond.methodLink RX7 110 yX7_checkEdges, Cond.instanceMethod yX7_checkEdges, Cond.selects RX7 yX7_checkEdges yX7_checkEdges, Cond.initialized RX7, Cond.code yX7_checkEdges cX7_checkEdges 3 none, Cond.classLink RX7 62 "java/lang/IllegalArgumentException", Cond.initialized "java/lang/IllegalArgumentException", Cond.methodLink RX7 114 yX7_joinSet, Cond.instanceMethod yX7_joinSet, Cond.selects RX7 yX7_joinSet yX7_joinSet, Cond.code yX7_joinSet cX7_joinSet 5 (some .int), Cond.methodLink RX7 230 yX3_part, Cond.instanceMethod yX3_part, Cond.selects RX3 yX3_part yX3_part, Cond.initialized RX3, Cond.code yX3_part cX3_part 3 none, Cond.fieldLink RX3 19 "CycleHouse$Groups" "vertices" "I", Cond.fieldLink RX3 23 "CycleHouse$Groups" "count" "I", Cond.fieldLink RX3 9 "CycleHouse$Groups" "name" "[I", Cond.fieldLink RX3 15 "CycleHouse$Groups" "way" "[J", Cond.methodLink RX7 233 yX7_has]
def wsX7_forests_r2 : List Cond := [Cond.static yX7_has, Cond.code yX7_has cX7_has 3 (some .boolean), Cond.methodLink RX7 237 yX3_join, Cond.instanceMethod yX3_join, Cond.selects RX3 yX3_join yX3_join, Cond.code yX3_join cX3_join 7 (some .long), Cond.methodLink RX3 34 yX3_together, Cond.instanceMethod yX3_together, Cond.selects RX3 yX3_together yX3_together, Cond.code yX3_together cX3_together 3 (some .boolean), Cond.methodLink RX3 38 yX3_merge, Cond.instanceMethod yX3_merge, Cond.selects RX3 yX3_merge yX3_merge, Cond.code yX3_merge cX3_merge 6 none, Cond.methodLink RX7 118 yX1_count, Cond.instanceMethod yX1_count, Cond.selects RX1 yX1_count yX1_count, Cond.initialized RX1, Cond.code yX1_count cX1_count 6 (some .long), Cond.fieldLink RX1 11 "CycleHouse$ForestCount" "table" "[[J", Cond.methodLink RX1 22 yJ7_fill_d0a16, Cond.static yJ7_fill_d0a16, Cond.initialized RJ7, Cond.code yJ7_fill_d0a16 cJ7_fill_d0a16 5 none]
def wsX7_forests_r3 : List Cond := [Cond.methodLink RX1 43 yX1_determinant, Cond.instanceMethod yX1_determinant, Cond.selects RX1 yX1_determinant yX1_determinant, Cond.code yX1_determinant cX1_determinant 7 (some .long), Cond.methodLink RX1 47 yX1_eliminate, Cond.instanceMethod yX1_eliminate, Cond.selects RX1 yX1_eliminate yX1_eliminate, Cond.code yX1_eliminate cX1_eliminate 7 none]
def wsX7_lightestJoin : List Cond := .code yX7_lightestJoin cX7_lightestJoin 3 (some .int) :: ([.fieldLink RX7 10 "CycleHouse" "graph" "LCycleHouse$Graph;", .fieldLink RX7 26 "CycleHouse" "groups" "LCycleHouse$Groups;", .methodLink RX7 95 yX3_together, .instanceMethod yX3_together, .selects RX3 yX3_together yX3_together, .initialized RX3, .code yX3_together cX3_together 3 (some .boolean), .fieldLink RX3 9 "CycleHouse$Groups" "name" "[I"] ++ wsX70 ++ wsX20 ++ wsX30)
def wsX7_weightOfLightestJoins_r1 : List Cond := [Cond.fieldLink RX7 10 "CycleHouse" "graph" "LCycleHouse$Graph;", Cond.fieldLink RX7 26 "CycleHouse" "groups" "LCycleHouse$Groups;", Cond.methodLink RX7 241 yX7_lightestJoin, Cond.instanceMethod yX7_lightestJoin, Cond.selects RX7 yX7_lightestJoin yX7_lightestJoin, Cond.initialized RX7, Cond.code yX7_lightestJoin cX7_lightestJoin 3 (some .int), Cond.methodLink RX7 95 yX3_together, Cond.instanceMethod yX3_together, Cond.selects RX3 yX3_together yX3_together, Cond.initialized RX3, Cond.code yX3_together cX3_together 3 (some .boolean), Cond.fieldLink RX3 9 "CycleHouse$Groups" "name" "[I", Cond.methodLink RX7 237 yX3_join, Cond.instanceMethod yX3_join, Cond.selects RX3 yX3_join yX3_join, Cond.code yX3_join cX3_join 7 (some .long), Cond.fieldLink RX3 15 "CycleHouse$Groups" "way" "[J", Cond.methodLink RX3 34 yX3_together, Cond.methodLink RX3 38 yX3_merge, Cond.instanceMethod yX3_merge, Cond.selects RX3 yX3_merge yX3_merge, Cond.code yX3_merge cX3_merge 6 none, Cond.fieldLink RX3 19 "CycleHouse$Groups" "vertices" "I"]
def wsX7_weightOfLightestJoins_r2 : List Cond := [Cond.fieldLink RX3 23 "CycleHouse$Groups" "count" "I"]
def wsX7_weightOfLightestJoins : List Cond := .code yX7_weightOfLightestJoins cX7_weightOfLightestJoins 5 (some .long) :: ((wsX7_weightOfLightestJoins_r1 ++ wsX7_weightOfLightestJoins_r2) ++ wsX70 ++ wsX20 ++ wsX30)
def wsX7_lightest_r1 : List Cond := [Cond.constantLong RX7 122 (-1), Cond.fieldLink RX7 10 "CycleHouse" "graph" "LCycleHouse$Graph;", Cond.methodLink RX7 110 yX7_checkEdges, Cond.instanceMethod yX7_checkEdges, Cond.selects RX7 yX7_checkEdges yX7_checkEdges, Cond.initialized RX7, Cond.code yX7_checkEdges cX7_checkEdges 3 none, Cond.classLink RX7 62 "java/lang/IllegalArgumentException", Cond.initialized "java/lang/IllegalArgumentException", Cond.methodLink RX7 114 yX7_joinSet, Cond.instanceMethod yX7_joinSet, Cond.selects RX7 yX7_joinSet yX7_joinSet, Cond.code yX7_joinSet cX7_joinSet 5 (some .int), Cond.fieldLink RX7 26 "CycleHouse" "groups" "LCycleHouse$Groups;", Cond.methodLink RX7 230 yX3_part, Cond.instanceMethod yX3_part, Cond.selects RX3 yX3_part yX3_part, Cond.initialized RX3, Cond.code yX3_part cX3_part 3 none, Cond.fieldLink RX3 19 "CycleHouse$Groups" "vertices" "I", Cond.fieldLink RX3 23 "CycleHouse$Groups" "count" "I", Cond.fieldLink RX3 9 "CycleHouse$Groups" "name" "[I", Cond.fieldLink RX3 15 "CycleHouse$Groups" "way" "[J", Cond.methodLink RX7 233 yX7_has]
def wsX7_lightest_r2 : List Cond := [Cond.static yX7_has, Cond.code yX7_has cX7_has 3 (some .boolean), Cond.methodLink RX7 237 yX3_join, Cond.instanceMethod yX3_join, Cond.selects RX3 yX3_join yX3_join, Cond.code yX3_join cX3_join 7 (some .long), Cond.methodLink RX3 34 yX3_together, Cond.instanceMethod yX3_together, Cond.selects RX3 yX3_together yX3_together, Cond.code yX3_together cX3_together 3 (some .boolean), Cond.methodLink RX3 38 yX3_merge, Cond.instanceMethod yX3_merge, Cond.selects RX3 yX3_merge yX3_merge, Cond.code yX3_merge cX3_merge 6 none, Cond.methodLink RX7 124 yX2_weigh, Cond.instanceMethod yX2_weigh, Cond.selects RX2 yX2_weigh yX2_weigh, Cond.initialized RX2, Cond.code yX2_weigh cX2_weigh 3 (some .long), Cond.methodLink RX2 32 yX2_gain, Cond.instanceMethod yX2_gain, Cond.selects RX2 yX2_gain yX2_gain, Cond.code yX2_gain cX2_gain 11 (some .long), Cond.fieldLink RX2 22 "CycleHouse$Graph" "weight" "[I"]
def wsX7_lightest_r3 : List Cond := [Cond.methodLink RX2 36 yJ13_bitCount_95d88, Cond.static yJ13_bitCount_95d88, Cond.initialized RJ13, Cond.code yJ13_bitCount_95d88 cJ13_bitCount_95d88 2 (some .int), Cond.constantLong RJ13 314 (6148914691236517205), Cond.constantLong RJ13 316 (3689348814741910323), Cond.constantLong RJ13 318 (1085102592571150095), Cond.methodLink RX2 42 yJ13_numberOfTrailingZeros_95d88, Cond.static yJ13_numberOfTrailingZeros_95d88, Cond.code yJ13_numberOfTrailingZeros_95d88 cJ13_numberOfTrailingZeros_95d88 3 (some .int), Cond.methodLink RJ13 311 yJ6_numberOfTrailingZeros_0f7a4, Cond.static yJ6_numberOfTrailingZeros_0f7a4, Cond.initialized RJ6, Cond.code yJ6_numberOfTrailingZeros_0f7a4 cJ6_numberOfTrailingZeros_0f7a4 2 (some .int), Cond.constant RJ6 264 (65536), Cond.methodLink RX7 128 yX7_weightOfLightestJoins, Cond.instanceMethod yX7_weightOfLightestJoins, Cond.selects RX7 yX7_weightOfLightestJoins yX7_weightOfLightestJoins, Cond.code yX7_weightOfLightestJoins cX7_weightOfLightestJoins 5 (some .long), Cond.methodLink RX7 241 yX7_lightestJoin, Cond.instanceMethod yX7_lightestJoin, Cond.selects RX7 yX7_lightestJoin yX7_lightestJoin, Cond.code yX7_lightestJoin cX7_lightestJoin 3 (some .int), Cond.methodLink RX7 95 yX3_together]
def wsX7_isCycle_r1 : List Cond := [Cond.fieldLink RX7 10 "CycleHouse" "graph" "LCycleHouse$Graph;", Cond.methodLink RX7 110 yX7_checkEdges, Cond.instanceMethod yX7_checkEdges, Cond.selects RX7 yX7_checkEdges yX7_checkEdges, Cond.initialized RX7, Cond.code yX7_checkEdges cX7_checkEdges 3 none, Cond.classLink RX7 62 "java/lang/IllegalArgumentException", Cond.initialized "java/lang/IllegalArgumentException", Cond.methodLink RX7 132 yX2_isEven, Cond.instanceMethod yX2_isEven, Cond.selects RX2 yX2_isEven yX2_isEven, Cond.initialized RX2, Cond.code yX2_isEven cX2_isEven 5 (some .boolean), Cond.fieldLink RX2 25 "CycleHouse$Graph" "edges" "I", Cond.fieldLink RX2 15 "CycleHouse$Graph" "from" "[I", Cond.fieldLink RX2 19 "CycleHouse$Graph" "to" "[I", Cond.static yX7_has, Cond.code yX7_has cX7_has 3 (some .boolean), Cond.methodLink RX7 114 yX7_joinSet, Cond.instanceMethod yX7_joinSet, Cond.selects RX7 yX7_joinSet yX7_joinSet, Cond.code yX7_joinSet cX7_joinSet 5 (some .int), Cond.fieldLink RX7 26 "CycleHouse" "groups" "LCycleHouse$Groups;", Cond.methodLink RX7 230 yX3_part]
def wsX7_isCycle_r2 : List Cond := [Cond.instanceMethod yX3_part, Cond.selects RX3 yX3_part yX3_part, Cond.initialized RX3, Cond.code yX3_part cX3_part 3 none, Cond.fieldLink RX3 19 "CycleHouse$Groups" "vertices" "I", Cond.fieldLink RX3 23 "CycleHouse$Groups" "count" "I", Cond.fieldLink RX3 9 "CycleHouse$Groups" "name" "[I", Cond.fieldLink RX3 15 "CycleHouse$Groups" "way" "[J", Cond.methodLink RX7 233 yX7_has, Cond.methodLink RX7 237 yX3_join, Cond.instanceMethod yX3_join, Cond.selects RX3 yX3_join yX3_join, Cond.code yX3_join cX3_join 7 (some .long), Cond.methodLink RX3 34 yX3_together, Cond.instanceMethod yX3_together, Cond.selects RX3 yX3_together yX3_together, Cond.code yX3_together cX3_together 3 (some .boolean), Cond.methodLink RX3 38 yX3_merge, Cond.instanceMethod yX3_merge, Cond.selects RX3 yX3_merge yX3_merge, Cond.code yX3_merge cX3_merge 6 none]
def wsX7_through_r1 : List Cond := [Cond.classLink RX7 136 "java/util/NoSuchElementException", Cond.initialized "java/util/NoSuchElementException", Cond.fieldLink RX7 10 "CycleHouse" "graph" "LCycleHouse$Graph;", Cond.fieldLink RX7 33 "CycleHouse" "ways" "LCycleHouse$Ways;", Cond.constantLong RX7 122 (-1), Cond.methodLink RX7 145 yX6_seek, Cond.instanceMethod yX6_seek, Cond.selects RX6 yX6_seek yX6_seek, Cond.initialized RX6, Cond.code yX6_seek cX6_seek 6 none, Cond.fieldLink RX6 9 "CycleHouse$Ways" "length" "[J", Cond.constantLong RX6 24 (1152921504606846976), Cond.fieldLink RX6 15 "CycleHouse$Ways" "way" "[J", Cond.methodLink RX6 26 yX6_shortenAll, Cond.instanceMethod yX6_shortenAll, Cond.selects RX6 yX6_shortenAll yX6_shortenAll, Cond.code yX6_shortenAll cX6_shortenAll 7 (some .boolean), Cond.methodLink RX6 43 yX6_shorten, Cond.instanceMethod yX6_shorten, Cond.selects RX6 yX6_shorten yX6_shorten, Cond.code yX6_shorten cX6_shorten 5 (some .boolean), Cond.methodLink RX7 152 yX6_reaches, Cond.instanceMethod yX6_reaches, Cond.selects RX6 yX6_reaches yX6_reaches]
def wsX7_through_r2 : List Cond := [Cond.code yX6_reaches cX6_reaches 2 (some .boolean)]
def wsX7_basis_r1 : List Cond := [Cond.classLink RX7 136 "java/util/NoSuchElementException", Cond.initialized "java/util/NoSuchElementException", Cond.fieldLink RX7 40 "CycleHouse" "lightBasis" "LCycleHouse$LightBasis;", Cond.fieldLink RX7 10 "CycleHouse" "graph" "LCycleHouse$Graph;", Cond.fieldLink RX7 33 "CycleHouse" "ways" "LCycleHouse$Ways;", Cond.methodLink RX7 91 yX7_joinWhole, Cond.instanceMethod yX7_joinWhole, Cond.selects RX7 yX7_joinWhole yX7_joinWhole, Cond.initialized RX7, Cond.code yX7_joinWhole cX7_joinWhole 1 (some .int), Cond.methodLink RX7 114 yX7_joinSet, Cond.instanceMethod yX7_joinSet, Cond.selects RX7 yX7_joinSet yX7_joinSet, Cond.code yX7_joinSet cX7_joinSet 5 (some .int), Cond.fieldLink RX7 26 "CycleHouse" "groups" "LCycleHouse$Groups;", Cond.methodLink RX7 230 yX3_part, Cond.instanceMethod yX3_part, Cond.selects RX3 yX3_part yX3_part, Cond.initialized RX3, Cond.code yX3_part cX3_part 3 none, Cond.fieldLink RX3 19 "CycleHouse$Groups" "vertices" "I", Cond.fieldLink RX3 23 "CycleHouse$Groups" "count" "I", Cond.fieldLink RX3 9 "CycleHouse$Groups" "name" "[I", Cond.fieldLink RX3 15 "CycleHouse$Groups" "way" "[J"]
def wsX7_basis_r2 : List Cond := [Cond.methodLink RX7 233 yX7_has, Cond.static yX7_has, Cond.code yX7_has cX7_has 3 (some .boolean), Cond.methodLink RX7 237 yX3_join, Cond.instanceMethod yX3_join, Cond.selects RX3 yX3_join yX3_join, Cond.code yX3_join cX3_join 7 (some .long), Cond.methodLink RX3 34 yX3_together, Cond.instanceMethod yX3_together, Cond.selects RX3 yX3_together yX3_together, Cond.code yX3_together cX3_together 3 (some .boolean), Cond.methodLink RX3 38 yX3_merge, Cond.instanceMethod yX3_merge, Cond.selects RX3 yX3_merge yX3_merge, Cond.code yX3_merge cX3_merge 6 none, Cond.methodLink RX7 163 yX4_find, Cond.instanceMethod yX4_find, Cond.selects RX4 yX4_find yX4_find, Cond.initialized RX4, Cond.code yX4_find cX4_find 4 none, Cond.fieldLink RX4 28 "CycleHouse$LightBasis" "size" "I", Cond.fieldLink RX4 9 "CycleHouse$LightBasis" "ring" "[J", Cond.fieldLink RX4 18 "CycleHouse$LightBasis" "left" "[J", Cond.fieldLink RX4 15 "CycleHouse$LightBasis" "weight" "[J"]
def wsX7_basis_r3 : List Cond := [Cond.fieldLink RX4 21 "CycleHouse$LightBasis" "leftWeight" "[J", Cond.methodLink RX4 24 yX4_gatherAll, Cond.instanceMethod yX4_gatherAll, Cond.selects RX4 yX4_gatherAll yX4_gatherAll, Cond.code yX4_gatherAll cX4_gatherAll 5 none, Cond.fieldLink RX4 44 "CycleHouse$LightBasis" "candidates" "I", Cond.methodLink RX4 52 yX6_seek, Cond.instanceMethod yX6_seek, Cond.selects RX6 yX6_seek yX6_seek, Cond.initialized RX6, Cond.code yX6_seek cX6_seek 6 none, Cond.fieldLink RX6 9 "CycleHouse$Ways" "length" "[J", Cond.constantLong RX6 24 (1152921504606846976), Cond.fieldLink RX6 15 "CycleHouse$Ways" "way" "[J", Cond.methodLink RX6 26 yX6_shortenAll, Cond.instanceMethod yX6_shortenAll, Cond.selects RX6 yX6_shortenAll yX6_shortenAll, Cond.code yX6_shortenAll cX6_shortenAll 7 (some .boolean), Cond.methodLink RX6 43 yX6_shorten, Cond.instanceMethod yX6_shorten, Cond.selects RX6 yX6_shorten yX6_shorten, Cond.code yX6_shorten cX6_shorten 5 (some .boolean), Cond.methodLink RX4 61 yX4_gather, Cond.instanceMethod yX4_gather]
def wsX7_basis_r4 : List Cond := [Cond.selects RX4 yX4_gather yX4_gather, Cond.code yX4_gather cX4_gather 8 none, Cond.methodLink RX4 75 yX6_reaches, Cond.instanceMethod yX6_reaches, Cond.selects RX6 yX6_reaches yX6_reaches, Cond.code yX6_reaches cX6_reaches 2 (some .boolean), Cond.methodLink RX4 32 yX4_lightestLeft, Cond.instanceMethod yX4_lightestLeft, Cond.selects RX4 yX4_lightestLeft yX4_lightestLeft, Cond.code yX4_lightestLeft cX4_lightestLeft 3 (some .int), Cond.methodLink RX4 36 yX4_strike, Cond.instanceMethod yX4_strike, Cond.selects RX4 yX4_strike yX4_strike, Cond.code yX4_strike cX4_strike 4 none, Cond.methodLink RX4 40 yX4_mark, Cond.static yX4_mark, Cond.code yX4_mark cX4_mark 2 (some .long)]
def wsX7_belongs_r1 : List Cond := [Cond.fieldLink RX7 10 "CycleHouse" "graph" "LCycleHouse$Graph;", Cond.fieldLink RX7 40 "CycleHouse" "lightBasis" "LCycleHouse$LightBasis;", Cond.fieldLink RX7 33 "CycleHouse" "ways" "LCycleHouse$Ways;", Cond.methodLink RX7 110 yX7_checkEdges, Cond.instanceMethod yX7_checkEdges, Cond.selects RX7 yX7_checkEdges yX7_checkEdges, Cond.initialized RX7, Cond.code yX7_checkEdges cX7_checkEdges 3 none, Cond.classLink RX7 62 "java/lang/IllegalArgumentException", Cond.initialized "java/lang/IllegalArgumentException", Cond.methodLink RX7 132 yX2_isEven, Cond.instanceMethod yX2_isEven, Cond.selects RX2 yX2_isEven yX2_isEven, Cond.initialized RX2, Cond.code yX2_isEven cX2_isEven 5 (some .boolean), Cond.fieldLink RX2 25 "CycleHouse$Graph" "edges" "I", Cond.fieldLink RX2 15 "CycleHouse$Graph" "from" "[I", Cond.fieldLink RX2 19 "CycleHouse$Graph" "to" "[I", Cond.static yX7_has, Cond.code yX7_has cX7_has 3 (some .boolean), Cond.methodLink RX7 163 yX4_find, Cond.instanceMethod yX4_find, Cond.selects RX4 yX4_find yX4_find, Cond.initialized RX4]
def wsX7_belongs_r2 : List Cond := [Cond.code yX4_find cX4_find 4 none, Cond.fieldLink RX4 28 "CycleHouse$LightBasis" "size" "I", Cond.fieldLink RX4 9 "CycleHouse$LightBasis" "ring" "[J", Cond.fieldLink RX4 18 "CycleHouse$LightBasis" "left" "[J", Cond.fieldLink RX4 15 "CycleHouse$LightBasis" "weight" "[J", Cond.fieldLink RX4 21 "CycleHouse$LightBasis" "leftWeight" "[J", Cond.methodLink RX4 24 yX4_gatherAll, Cond.instanceMethod yX4_gatherAll, Cond.selects RX4 yX4_gatherAll yX4_gatherAll, Cond.code yX4_gatherAll cX4_gatherAll 5 none, Cond.fieldLink RX4 44 "CycleHouse$LightBasis" "candidates" "I", Cond.methodLink RX4 52 yX6_seek, Cond.instanceMethod yX6_seek, Cond.selects RX6 yX6_seek yX6_seek, Cond.initialized RX6, Cond.code yX6_seek cX6_seek 6 none, Cond.fieldLink RX6 9 "CycleHouse$Ways" "length" "[J", Cond.constantLong RX6 24 (1152921504606846976), Cond.fieldLink RX6 15 "CycleHouse$Ways" "way" "[J", Cond.methodLink RX6 26 yX6_shortenAll, Cond.instanceMethod yX6_shortenAll, Cond.selects RX6 yX6_shortenAll yX6_shortenAll, Cond.code yX6_shortenAll cX6_shortenAll 7 (some .boolean), Cond.methodLink RX6 43 yX6_shorten]
def wsX7_belongs_r3 : List Cond := [Cond.instanceMethod yX6_shorten, Cond.selects RX6 yX6_shorten yX6_shorten, Cond.code yX6_shorten cX6_shorten 5 (some .boolean), Cond.methodLink RX4 61 yX4_gather, Cond.instanceMethod yX4_gather, Cond.selects RX4 yX4_gather yX4_gather, Cond.code yX4_gather cX4_gather 8 none, Cond.methodLink RX4 75 yX6_reaches, Cond.instanceMethod yX6_reaches, Cond.selects RX6 yX6_reaches yX6_reaches, Cond.code yX6_reaches cX6_reaches 2 (some .boolean), Cond.methodLink RX4 32 yX4_lightestLeft, Cond.instanceMethod yX4_lightestLeft, Cond.selects RX4 yX4_lightestLeft yX4_lightestLeft, Cond.code yX4_lightestLeft cX4_lightestLeft 3 (some .int), Cond.methodLink RX4 36 yX4_strike, Cond.instanceMethod yX4_strike, Cond.selects RX4 yX4_strike yX4_strike, Cond.code yX4_strike cX4_strike 4 none, Cond.methodLink RX4 40 yX4_mark, Cond.static yX4_mark, Cond.code yX4_mark cX4_mark 2 (some .long), Cond.methodLink RX7 124 yX2_weigh, Cond.instanceMethod yX2_weigh]
def wsX7_belongs_r4 : List Cond := [Cond.selects RX2 yX2_weigh yX2_weigh, Cond.code yX2_weigh cX2_weigh 3 (some .long), Cond.methodLink RX2 32 yX2_gain, Cond.instanceMethod yX2_gain, Cond.selects RX2 yX2_gain yX2_gain, Cond.code yX2_gain cX2_gain 11 (some .long), Cond.fieldLink RX2 22 "CycleHouse$Graph" "weight" "[I", Cond.methodLink RX2 36 yJ13_bitCount_95d88, Cond.static yJ13_bitCount_95d88, Cond.initialized RJ13, Cond.code yJ13_bitCount_95d88 cJ13_bitCount_95d88 2 (some .int), Cond.constantLong RJ13 314 (6148914691236517205), Cond.constantLong RJ13 316 (3689348814741910323), Cond.constantLong RJ13 318 (1085102592571150095), Cond.methodLink RX2 42 yJ13_numberOfTrailingZeros_95d88, Cond.static yJ13_numberOfTrailingZeros_95d88, Cond.code yJ13_numberOfTrailingZeros_95d88 cJ13_numberOfTrailingZeros_95d88 3 (some .int), Cond.methodLink RJ13 311 yJ6_numberOfTrailingZeros_0f7a4, Cond.static yJ6_numberOfTrailingZeros_0f7a4, Cond.initialized RJ6, Cond.code yJ6_numberOfTrailingZeros_0f7a4 cJ6_numberOfTrailingZeros_0f7a4 2 (some .int), Cond.constant RJ6 264 (65536), Cond.methodLink RX7 169 yX4_isSumOfLighter, Cond.instanceMethod yX4_isSumOfLighter]
def wsX7_belongs_r5 : List Cond := [Cond.selects RX4 yX4_isSumOfLighter yX4_isSumOfLighter, Cond.code yX4_isSumOfLighter cX4_isSumOfLighter 8 (some .boolean)]
def wsX7_cycles : List Cond := .code yX7_cycles cX7_cycles 1 (some .int) :: ([.fieldLink RX7 54 "CycleHouse" "cycleCount" "LCycleHouse$CycleCount;", .fieldLink RX7 10 "CycleHouse" "graph" "LCycleHouse$Graph;", .methodLink RX7 173 yX0_count, .instanceMethod yX0_count, .selects RX0 yX0_count yX0_count, .initialized RX0, .code yX0_count cX0_count 6 (some .int), .fieldLink RX0 11 "CycleHouse$CycleCount" "between" "[[I", .methodLink RX0 16 yJ7_fill_53178, .static yJ7_fill_53178, .initialized RJ7, .code yJ7_fill_53178 cJ7_fill_53178 4 none, .methodLink RX0 35 yX0_paths, .static yX0_paths, .code yX0_paths cX0_paths 7 (some .int)] ++ wsX70 ++ wsX00 ++ wsX20)
def wsX7_fillRings : List Cond := .code yX7_fillRings cX7_fillRings 5 (some .int) :: ([.fieldLink RX7 26 "CycleHouse" "groups" "LCycleHouse$Groups;", .fieldLink RX7 10 "CycleHouse" "graph" "LCycleHouse$Graph;", .fieldLink RX7 58 "CycleHouse" "rings" "[J", .methodLink RX7 230 yX3_part, .instanceMethod yX3_part, .selects RX3 yX3_part yX3_part, .initialized RX3, .code yX3_part cX3_part 3 none, .fieldLink RX3 19 "CycleHouse$Groups" "vertices" "I", .fieldLink RX3 23 "CycleHouse$Groups" "count" "I", .fieldLink RX3 9 "CycleHouse$Groups" "name" "[I", .fieldLink RX3 15 "CycleHouse$Groups" "way" "[J", .methodLink RX7 237 yX3_join, .instanceMethod yX3_join, .selects RX3 yX3_join yX3_join, .code yX3_join cX3_join 7 (some .long), .methodLink RX3 34 yX3_together, .instanceMethod yX3_together, .selects RX3 yX3_together yX3_together, .code yX3_together cX3_together 3 (some .boolean), .methodLink RX3 38 yX3_merge, .instanceMethod yX3_merge, .selects RX3 yX3_merge yX3_merge, .code yX3_merge cX3_merge 6 none] ++ wsX70 ++ wsX20 ++ wsX30)
def wsX7_light_r1 : List Cond := [Cond.fieldLink RX7 58 "CycleHouse" "rings" "[J", Cond.fieldLink RX7 10 "CycleHouse" "graph" "LCycleHouse$Graph;", Cond.methodLink RX7 176 yX7_fillRings, Cond.instanceMethod yX7_fillRings, Cond.selects RX7 yX7_fillRings yX7_fillRings, Cond.initialized RX7, Cond.code yX7_fillRings cX7_fillRings 5 (some .int), Cond.fieldLink RX7 26 "CycleHouse" "groups" "LCycleHouse$Groups;", Cond.methodLink RX7 230 yX3_part, Cond.instanceMethod yX3_part, Cond.selects RX3 yX3_part yX3_part, Cond.initialized RX3, Cond.code yX3_part cX3_part 3 none, Cond.fieldLink RX3 19 "CycleHouse$Groups" "vertices" "I", Cond.fieldLink RX3 23 "CycleHouse$Groups" "count" "I", Cond.fieldLink RX3 9 "CycleHouse$Groups" "name" "[I", Cond.fieldLink RX3 15 "CycleHouse$Groups" "way" "[J", Cond.methodLink RX7 237 yX3_join, Cond.instanceMethod yX3_join, Cond.selects RX3 yX3_join yX3_join, Cond.code yX3_join cX3_join 7 (some .long), Cond.methodLink RX3 34 yX3_together, Cond.instanceMethod yX3_together, Cond.selects RX3 yX3_together yX3_together]
def wsX7_light_r2 : List Cond := [Cond.code yX3_together cX3_together 3 (some .boolean), Cond.methodLink RX3 38 yX3_merge, Cond.instanceMethod yX3_merge, Cond.selects RX3 yX3_merge yX3_merge, Cond.code yX3_merge cX3_merge 6 none, Cond.methodLink RX7 179 yJ6_numberOfTrailingZeros_0f7a4, Cond.static yJ6_numberOfTrailingZeros_0f7a4, Cond.initialized RJ6, Cond.code yJ6_numberOfTrailingZeros_0f7a4 cJ6_numberOfTrailingZeros_0f7a4 2 (some .int), Cond.constant RJ6 264 (65536), Cond.methodLink RX7 185 yX2_gain, Cond.instanceMethod yX2_gain, Cond.selects RX2 yX2_gain yX2_gain, Cond.initialized RX2, Cond.code yX2_gain cX2_gain 11 (some .long), Cond.fieldLink RX2 22 "CycleHouse$Graph" "weight" "[I", Cond.methodLink RX2 36 yJ13_bitCount_95d88, Cond.static yJ13_bitCount_95d88, Cond.initialized RJ13, Cond.code yJ13_bitCount_95d88 cJ13_bitCount_95d88 2 (some .int), Cond.constantLong RJ13 314 (6148914691236517205), Cond.constantLong RJ13 316 (3689348814741910323), Cond.constantLong RJ13 318 (1085102592571150095), Cond.methodLink RX2 42 yJ13_numberOfTrailingZeros_95d88]
def wsX7_light_r3 : List Cond := [Cond.static yJ13_numberOfTrailingZeros_95d88, Cond.code yJ13_numberOfTrailingZeros_95d88 cJ13_numberOfTrailingZeros_95d88 3 (some .int), Cond.methodLink RJ13 311 yJ6_numberOfTrailingZeros_0f7a4, Cond.static yX7_has, Cond.code yX7_has cX7_has 3 (some .boolean)]
def wsX7_light : List Cond := .code yX7_light cX7_light 12 (some .int) :: ((wsX7_light_r1 ++ (wsX7_light_r2 ++ wsX7_light_r3)) ++ wsX70 ++ wsX20 ++ wsX30)
def wsX7_add_r1 : List Cond := [Cond.classLink RX7 86 "java/lang/IllegalStateException", Cond.initialized "java/lang/IllegalStateException", Cond.fieldLink RX7 19 "CycleHouse" "list" "LCycleHouse$SetList;", Cond.methodLink RX7 189 yX7_checkListed, Cond.instanceMethod yX7_checkListed, Cond.selects RX7 yX7_checkListed yX7_checkListed, Cond.initialized RX7, Cond.code yX7_checkListed cX7_checkListed 3 none, Cond.classLink RX7 62 "java/lang/IllegalArgumentException", Cond.initialized "java/lang/IllegalArgumentException", Cond.methodLink RX7 197 yX5_append, Cond.instanceMethod yX5_append, Cond.selects RX5 yX5_append yX5_append, Cond.initialized RX5, Cond.code yX5_append cX5_append 5 (some .int), Cond.fieldLink RX5 9 "CycleHouse$SetList" "row" "[J", Cond.fieldLink RX5 25 "CycleHouse$SetList" "rank" "I", Cond.fieldLink RX5 29 "CycleHouse$SetList" "sets" "I", Cond.methodLink RX5 15 yX5_rest, Cond.instanceMethod yX5_rest, Cond.selects RX5 yX5_rest yX5_rest, Cond.code yX5_rest cX5_rest 6 (some .long), Cond.static yX7_has, Cond.code yX7_has cX7_has 3 (some .boolean)]
def wsX7_add_r2 : List Cond := [Cond.methodLink RX5 19 yJ13_numberOfTrailingZeros_95d88, Cond.static yJ13_numberOfTrailingZeros_95d88, Cond.initialized RJ13, Cond.code yJ13_numberOfTrailingZeros_95d88 cJ13_numberOfTrailingZeros_95d88 3 (some .int), Cond.methodLink RJ13 311 yJ6_numberOfTrailingZeros_0f7a4, Cond.static yJ6_numberOfTrailingZeros_0f7a4, Cond.initialized RJ6, Cond.code yJ6_numberOfTrailingZeros_0f7a4 cJ6_numberOfTrailingZeros_0f7a4 2 (some .int), Cond.constant RJ6 264 (65536)]
def wsX7_clear : List Cond := .code yX7_clear cX7_clear 2 (some .int) :: ([.fieldLink RX7 19 "CycleHouse" "list" "LCycleHouse$SetList;", .methodLink RX7 199 yX5_empty, .instanceMethod yX5_empty, .selects RX5 yX5_empty yX5_empty, .initialized RX5, .code yX5_empty cX5_empty 1 none, .fieldLink RX5 29 "CycleHouse$SetList" "sets" "I", .fieldLink RX5 25 "CycleHouse$SetList" "rank" "I", .fieldLink RX5 9 "CycleHouse$SetList" "row" "[J", .methodLink RX5 32 yJ7_fill_d0a16, .static yJ7_fill_d0a16, .initialized RJ7, .code yJ7_fill_d0a16 cJ7_fill_d0a16 5 none] ++ wsX70 ++ wsX50)
def wsX7_countGroups_r1 : List Cond := [Cond.fieldLink RX7 26 "CycleHouse" "groups" "LCycleHouse$Groups;", Cond.methodLink RX7 91 yX7_joinWhole, Cond.instanceMethod yX7_joinWhole, Cond.selects RX7 yX7_joinWhole yX7_joinWhole, Cond.initialized RX7, Cond.code yX7_joinWhole cX7_joinWhole 1 (some .int), Cond.fieldLink RX7 10 "CycleHouse" "graph" "LCycleHouse$Graph;", Cond.methodLink RX7 114 yX7_joinSet, Cond.instanceMethod yX7_joinSet, Cond.selects RX7 yX7_joinSet yX7_joinSet, Cond.code yX7_joinSet cX7_joinSet 5 (some .int), Cond.methodLink RX7 230 yX3_part, Cond.instanceMethod yX3_part, Cond.selects RX3 yX3_part yX3_part, Cond.initialized RX3, Cond.code yX3_part cX3_part 3 none, Cond.fieldLink RX3 19 "CycleHouse$Groups" "vertices" "I", Cond.fieldLink RX3 23 "CycleHouse$Groups" "count" "I", Cond.fieldLink RX3 9 "CycleHouse$Groups" "name" "[I", Cond.fieldLink RX3 15 "CycleHouse$Groups" "way" "[J", Cond.methodLink RX7 233 yX7_has, Cond.static yX7_has, Cond.code yX7_has cX7_has 3 (some .boolean), Cond.methodLink RX7 237 yX3_join]
def wsX7_countGroups_r2 : List Cond := [Cond.instanceMethod yX3_join, Cond.selects RX3 yX3_join yX3_join, Cond.code yX3_join cX3_join 7 (some .long), Cond.methodLink RX3 34 yX3_together, Cond.instanceMethod yX3_together, Cond.selects RX3 yX3_together yX3_together, Cond.code yX3_together cX3_together 3 (some .boolean), Cond.methodLink RX3 38 yX3_merge, Cond.instanceMethod yX3_merge, Cond.selects RX3 yX3_merge yX3_merge, Cond.code yX3_merge cX3_merge 6 none]
def wsX7_countGroups : List Cond := .code yX7_countGroups cX7_countGroups 1 (some .int) :: ((wsX7_countGroups_r1 ++ wsX7_countGroups_r2) ++ wsX70 ++ wsX30 ++ wsX20)
def wsX7_countEdgesInNoCycle_r1 : List Cond := [Cond.fieldLink RX7 58 "CycleHouse" "rings" "[J", Cond.fieldLink RX7 10 "CycleHouse" "graph" "LCycleHouse$Graph;", Cond.methodLink RX7 176 yX7_fillRings, Cond.instanceMethod yX7_fillRings, Cond.selects RX7 yX7_fillRings yX7_fillRings, Cond.initialized RX7, Cond.code yX7_fillRings cX7_fillRings 5 (some .int), Cond.fieldLink RX7 26 "CycleHouse" "groups" "LCycleHouse$Groups;", Cond.methodLink RX7 230 yX3_part, Cond.instanceMethod yX3_part, Cond.selects RX3 yX3_part yX3_part, Cond.initialized RX3, Cond.code yX3_part cX3_part 3 none, Cond.fieldLink RX3 19 "CycleHouse$Groups" "vertices" "I", Cond.fieldLink RX3 23 "CycleHouse$Groups" "count" "I", Cond.fieldLink RX3 9 "CycleHouse$Groups" "name" "[I", Cond.fieldLink RX3 15 "CycleHouse$Groups" "way" "[J", Cond.methodLink RX7 237 yX3_join, Cond.instanceMethod yX3_join, Cond.selects RX3 yX3_join yX3_join, Cond.code yX3_join cX3_join 7 (some .long), Cond.methodLink RX3 34 yX3_together, Cond.instanceMethod yX3_together, Cond.selects RX3 yX3_together yX3_together]
def wsX7_countEdgesInNoCycle_r2 : List Cond := [Cond.code yX3_together cX3_together 3 (some .boolean), Cond.methodLink RX3 38 yX3_merge, Cond.instanceMethod yX3_merge, Cond.selects RX3 yX3_merge yX3_merge, Cond.code yX3_merge cX3_merge 6 none, Cond.methodLink RX7 246 yJ13_bitCount_95d88, Cond.static yJ13_bitCount_95d88, Cond.initialized RJ13, Cond.code yJ13_bitCount_95d88 cJ13_bitCount_95d88 2 (some .int), Cond.constantLong RJ13 314 (6148914691236517205), Cond.constantLong RJ13 316 (3689348814741910323), Cond.constantLong RJ13 318 (1085102592571150095)]
def wsX7_countEdgesInNoCycle : List Cond := .code yX7_countEdgesInNoCycle cX7_countEdgesInNoCycle 5 (some .int) :: ((wsX7_countEdgesInNoCycle_r1 ++ wsX7_countEdgesInNoCycle_r2) ++ wsX70 ++ wsX20 ++ wsX30)
def wsX7_hasOddCycle_r1 : List Cond := [Cond.fieldLink RX7 58 "CycleHouse" "rings" "[J", Cond.methodLink RX7 176 yX7_fillRings, Cond.instanceMethod yX7_fillRings, Cond.selects RX7 yX7_fillRings yX7_fillRings, Cond.initialized RX7, Cond.code yX7_fillRings cX7_fillRings 5 (some .int), Cond.fieldLink RX7 26 "CycleHouse" "groups" "LCycleHouse$Groups;", Cond.fieldLink RX7 10 "CycleHouse" "graph" "LCycleHouse$Graph;", Cond.methodLink RX7 230 yX3_part, Cond.instanceMethod yX3_part, Cond.selects RX3 yX3_part yX3_part, Cond.initialized RX3, Cond.code yX3_part cX3_part 3 none, Cond.fieldLink RX3 19 "CycleHouse$Groups" "vertices" "I", Cond.fieldLink RX3 23 "CycleHouse$Groups" "count" "I", Cond.fieldLink RX3 9 "CycleHouse$Groups" "name" "[I", Cond.fieldLink RX3 15 "CycleHouse$Groups" "way" "[J", Cond.methodLink RX7 237 yX3_join, Cond.instanceMethod yX3_join, Cond.selects RX3 yX3_join yX3_join, Cond.code yX3_join cX3_join 7 (some .long), Cond.methodLink RX3 34 yX3_together, Cond.instanceMethod yX3_together, Cond.selects RX3 yX3_together yX3_together]
def wsX7_hasOddCycle_r2 : List Cond := [Cond.code yX3_together cX3_together 3 (some .boolean), Cond.methodLink RX3 38 yX3_merge, Cond.instanceMethod yX3_merge, Cond.selects RX3 yX3_merge yX3_merge, Cond.code yX3_merge cX3_merge 6 none, Cond.methodLink RX7 246 yJ13_bitCount_95d88, Cond.static yJ13_bitCount_95d88, Cond.initialized RJ13, Cond.code yJ13_bitCount_95d88 cJ13_bitCount_95d88 2 (some .int), Cond.constantLong RJ13 314 (6148914691236517205), Cond.constantLong RJ13 316 (3689348814741910323), Cond.constantLong RJ13 318 (1085102592571150095)]
def wsX7_hasOddCycle : List Cond := .code yX7_hasOddCycle cX7_hasOddCycle 3 (some .boolean) :: ((wsX7_hasOddCycle_r1 ++ wsX7_hasOddCycle_r2) ++ wsX70 ++ wsX20 ++ wsX30)
def wsX7_countCuttingVertices_r1 : List Cond := [Cond.fieldLink RX7 10 "CycleHouse" "graph" "LCycleHouse$Graph;", Cond.fieldLink RX7 26 "CycleHouse" "groups" "LCycleHouse$Groups;", Cond.methodLink RX7 208 yX7_countGroups, Cond.instanceMethod yX7_countGroups, Cond.selects RX7 yX7_countGroups yX7_countGroups, Cond.initialized RX7, Cond.code yX7_countGroups cX7_countGroups 1 (some .int), Cond.methodLink RX7 91 yX7_joinWhole, Cond.instanceMethod yX7_joinWhole, Cond.selects RX7 yX7_joinWhole yX7_joinWhole, Cond.code yX7_joinWhole cX7_joinWhole 1 (some .int), Cond.methodLink RX7 114 yX7_joinSet, Cond.instanceMethod yX7_joinSet, Cond.selects RX7 yX7_joinSet yX7_joinSet, Cond.code yX7_joinSet cX7_joinSet 5 (some .int), Cond.methodLink RX7 230 yX3_part, Cond.instanceMethod yX3_part, Cond.selects RX3 yX3_part yX3_part, Cond.initialized RX3, Cond.code yX3_part cX3_part 3 none, Cond.fieldLink RX3 19 "CycleHouse$Groups" "vertices" "I", Cond.fieldLink RX3 23 "CycleHouse$Groups" "count" "I", Cond.fieldLink RX3 9 "CycleHouse$Groups" "name" "[I", Cond.fieldLink RX3 15 "CycleHouse$Groups" "way" "[J"]
def wsX7_countCuttingVertices_r2 : List Cond := [Cond.methodLink RX7 233 yX7_has, Cond.static yX7_has, Cond.code yX7_has cX7_has 3 (some .boolean), Cond.methodLink RX7 237 yX3_join, Cond.instanceMethod yX3_join, Cond.selects RX3 yX3_join yX3_join, Cond.code yX3_join cX3_join 7 (some .long), Cond.methodLink RX3 34 yX3_together, Cond.instanceMethod yX3_together, Cond.selects RX3 yX3_together yX3_together, Cond.code yX3_together cX3_together 3 (some .boolean), Cond.methodLink RX3 38 yX3_merge, Cond.instanceMethod yX3_merge, Cond.selects RX3 yX3_merge yX3_merge, Cond.code yX3_merge cX3_merge 6 none, Cond.methodLink RX7 251 yX2_edgesApartFrom, Cond.instanceMethod yX2_edgesApartFrom, Cond.selects RX2 yX2_edgesApartFrom yX2_edgesApartFrom, Cond.initialized RX2, Cond.code yX2_edgesApartFrom cX2_edgesApartFrom 5 (some .long), Cond.fieldLink RX2 25 "CycleHouse$Graph" "edges" "I", Cond.fieldLink RX2 15 "CycleHouse$Graph" "from" "[I", Cond.fieldLink RX2 19 "CycleHouse$Graph" "to" "[I"]
def wsX7_countCuttingVertices : List Cond := .code yX7_countCuttingVertices cX7_countCuttingVertices 4 (some .int) :: ((wsX7_countCuttingVertices_r1 ++ wsX7_countCuttingVertices_r2) ++ wsX70 ++ wsX20 ++ wsX30)
def wsX7_look_r1 : List Cond := [Cond.classLink RX7 62 "java/lang/IllegalArgumentException", Cond.initialized "java/lang/IllegalArgumentException", Cond.fieldLink RX7 10 "CycleHouse" "graph" "LCycleHouse$Graph;", Cond.fieldLink RX7 19 "CycleHouse" "list" "LCycleHouse$SetList;", Cond.methodLink RX7 208 yX7_countGroups, Cond.instanceMethod yX7_countGroups, Cond.selects RX7 yX7_countGroups yX7_countGroups, Cond.initialized RX7, Cond.code yX7_countGroups cX7_countGroups 1 (some .int), Cond.fieldLink RX7 26 "CycleHouse" "groups" "LCycleHouse$Groups;", Cond.methodLink RX7 91 yX7_joinWhole, Cond.instanceMethod yX7_joinWhole, Cond.selects RX7 yX7_joinWhole yX7_joinWhole, Cond.code yX7_joinWhole cX7_joinWhole 1 (some .int), Cond.methodLink RX7 114 yX7_joinSet, Cond.instanceMethod yX7_joinSet, Cond.selects RX7 yX7_joinSet yX7_joinSet, Cond.code yX7_joinSet cX7_joinSet 5 (some .int), Cond.methodLink RX7 230 yX3_part, Cond.instanceMethod yX3_part, Cond.selects RX3 yX3_part yX3_part, Cond.initialized RX3, Cond.code yX3_part cX3_part 3 none, Cond.fieldLink RX3 19 "CycleHouse$Groups" "vertices" "I"]
def wsX7_look_r2 : List Cond := [Cond.fieldLink RX3 23 "CycleHouse$Groups" "count" "I", Cond.fieldLink RX3 9 "CycleHouse$Groups" "name" "[I", Cond.fieldLink RX3 15 "CycleHouse$Groups" "way" "[J", Cond.methodLink RX7 233 yX7_has, Cond.static yX7_has, Cond.code yX7_has cX7_has 3 (some .boolean), Cond.methodLink RX7 237 yX3_join, Cond.instanceMethod yX3_join, Cond.selects RX3 yX3_join yX3_join, Cond.code yX3_join cX3_join 7 (some .long), Cond.methodLink RX3 34 yX3_together, Cond.instanceMethod yX3_together, Cond.selects RX3 yX3_together yX3_together, Cond.code yX3_together cX3_together 3 (some .boolean), Cond.methodLink RX3 38 yX3_merge, Cond.instanceMethod yX3_merge, Cond.selects RX3 yX3_merge yX3_merge, Cond.code yX3_merge cX3_merge 6 none, Cond.methodLink RX7 211 yX7_countEdgesInNoCycle, Cond.instanceMethod yX7_countEdgesInNoCycle, Cond.selects RX7 yX7_countEdgesInNoCycle yX7_countEdgesInNoCycle, Cond.code yX7_countEdgesInNoCycle cX7_countEdgesInNoCycle 5 (some .int), Cond.fieldLink RX7 58 "CycleHouse" "rings" "[J", Cond.methodLink RX7 176 yX7_fillRings]
def wsX7_look_r3 : List Cond := [Cond.instanceMethod yX7_fillRings, Cond.selects RX7 yX7_fillRings yX7_fillRings, Cond.code yX7_fillRings cX7_fillRings 5 (some .int), Cond.methodLink RX7 246 yJ13_bitCount_95d88, Cond.static yJ13_bitCount_95d88, Cond.initialized RJ13, Cond.code yJ13_bitCount_95d88 cJ13_bitCount_95d88 2 (some .int), Cond.constantLong RJ13 314 (6148914691236517205), Cond.constantLong RJ13 316 (3689348814741910323), Cond.constantLong RJ13 318 (1085102592571150095), Cond.methodLink RX7 214 yX7_hasOddCycle, Cond.instanceMethod yX7_hasOddCycle, Cond.selects RX7 yX7_hasOddCycle yX7_hasOddCycle, Cond.code yX7_hasOddCycle cX7_hasOddCycle 3 (some .boolean), Cond.methodLink RX7 221 yX7_countCuttingVertices, Cond.instanceMethod yX7_countCuttingVertices, Cond.selects RX7 yX7_countCuttingVertices yX7_countCuttingVertices, Cond.code yX7_countCuttingVertices cX7_countCuttingVertices 4 (some .int), Cond.methodLink RX7 251 yX2_edgesApartFrom, Cond.instanceMethod yX2_edgesApartFrom, Cond.selects RX2 yX2_edgesApartFrom yX2_edgesApartFrom, Cond.initialized RX2, Cond.code yX2_edgesApartFrom cX2_edgesApartFrom 5 (some .long), Cond.fieldLink RX2 25 "CycleHouse$Graph" "edges" "I"]
def wsX7_look_r4 : List Cond := [Cond.fieldLink RX2 15 "CycleHouse$Graph" "from" "[I", Cond.fieldLink RX2 19 "CycleHouse$Graph" "to" "[I"]
def wsX8_init : List Cond := .code yX8_init cX8_init 1 none :: ([.methodLink RX8 1 objectInit, .instanceMethod objectInit, .code objectInit ⟨#[0xb1]⟩ 1 none, .fieldLink RX8 7 "CycleHouseModel" "n" "I", .arrayClass .int, .fieldLink RX8 13 "CycleHouseModel" "from" "[I", .fieldLink RX8 17 "CycleHouseModel" "to" "[I", .fieldLink RX8 20 "CycleHouseModel" "weight" "[I", .arrayClass .long, .fieldLink RX8 23 "CycleHouseModel" "list" "[J", .fieldLink RX8 27 "CycleHouseModel" "group" "[I", .fieldLink RX8 30 "CycleHouseModel" "ways" "[J", .fieldLink RX8 33 "CycleHouseModel" "closing" "[J", .fieldLink RX8 36 "CycleHouseModel" "closer" "[I", .fieldLink RX8 39 "CycleHouseModel" "elements" "[J", .fieldLink RX8 42 "CycleHouseModel" "weights" "[J", .fieldLink RX8 45 "CycleHouseModel" "rows" "[J", .fieldLink RX8 48 "CycleHouseModel" "matrix" "[J", .fieldLink RX8 51 "CycleHouseModel" "place" "[I", .arrayClass .boolean, .fieldLink RX8 54 "CycleHouseModel" "reached" "[Z"] ++ wsX80)
def wsX8_thrown : List Cond := .code yX8_thrown cX8_thrown 1 (some .int) :: ([.fieldLink RX8 58 "CycleHouseModel" "thrown" "I"] ++ wsX80)
def wsX8_throwing : List Cond := .code yX8_throwing cX8_throwing 3 (some .boolean) :: ([.fieldLink RX8 58 "CycleHouseModel" "thrown" "I"] ++ wsX80)
def wsX8_isVertex : List Cond := .code yX8_isVertex cX8_isVertex 2 (some .boolean) :: ([.fieldLink RX8 7 "CycleHouseModel" "n" "I"] ++ wsX80)
def wsX8_isSet : List Cond := .code yX8_isSet cX8_isSet 3 (some .boolean) :: ([.fieldLink RX8 61 "CycleHouseModel" "m" "I"] ++ wsX80)
def wsX8_beginGroups : List Cond := .code yX8_beginGroups cX8_beginGroups 2 none :: ([.fieldLink RX8 64 "CycleHouseModel" "closed" "I", .fieldLink RX8 27 "CycleHouseModel" "group" "[I", .fieldLink RX8 30 "CycleHouseModel" "ways" "[J"] ++ wsX80)
def wsX8_joins : List Cond := .code yX8_joins cX8_joins 8 (some .boolean) :: ([.fieldLink RX8 13 "CycleHouseModel" "from" "[I", .fieldLink RX8 17 "CycleHouseModel" "to" "[I", .fieldLink RX8 27 "CycleHouseModel" "group" "[I", .fieldLink RX8 33 "CycleHouseModel" "closing" "[J", .fieldLink RX8 64 "CycleHouseModel" "closed" "I", .fieldLink RX8 30 "CycleHouseModel" "ways" "[J", .fieldLink RX8 36 "CycleHouseModel" "closer" "[I", .fieldLink RX8 7 "CycleHouseModel" "n" "I"] ++ wsX80)
def wsX8_groups : List Cond := .code yX8_groups cX8_groups 3 (some .int) :: ([.fieldLink RX8 7 "CycleHouseModel" "n" "I", .fieldLink RX8 61 "CycleHouseModel" "m" "I", .methodLink RX8 67 yX8_beginGroups, .instanceMethod yX8_beginGroups, .selects RX8 yX8_beginGroups yX8_beginGroups, .initialized RX8, .code yX8_beginGroups cX8_beginGroups 2 none, .fieldLink RX8 64 "CycleHouseModel" "closed" "I", .fieldLink RX8 27 "CycleHouseModel" "group" "[I", .fieldLink RX8 30 "CycleHouseModel" "ways" "[J", .methodLink RX8 70 yX8_joins, .instanceMethod yX8_joins, .selects RX8 yX8_joins yX8_joins, .code yX8_joins cX8_joins 8 (some .boolean), .fieldLink RX8 13 "CycleHouseModel" "from" "[I", .fieldLink RX8 17 "CycleHouseModel" "to" "[I", .fieldLink RX8 33 "CycleHouseModel" "closing" "[J", .fieldLink RX8 36 "CycleHouseModel" "closer" "[I"] ++ wsX80)
def wsX8_dimension : List Cond := .code yX8_dimension cX8_dimension 1 (some .int) :: ([.fieldLink RX8 61 "CycleHouseModel" "m" "I", .fieldLink RX8 7 "CycleHouseModel" "n" "I", .methodLink RX8 74 yX8_groups, .instanceMethod yX8_groups, .selects RX8 yX8_groups yX8_groups, .initialized RX8, .code yX8_groups cX8_groups 3 (some .int), .methodLink RX8 67 yX8_beginGroups, .instanceMethod yX8_beginGroups, .selects RX8 yX8_beginGroups yX8_beginGroups, .code yX8_beginGroups cX8_beginGroups 2 none, .fieldLink RX8 64 "CycleHouseModel" "closed" "I", .fieldLink RX8 27 "CycleHouseModel" "group" "[I", .fieldLink RX8 30 "CycleHouseModel" "ways" "[J", .methodLink RX8 70 yX8_joins, .instanceMethod yX8_joins, .selects RX8 yX8_joins yX8_joins, .code yX8_joins cX8_joins 8 (some .boolean), .fieldLink RX8 13 "CycleHouseModel" "from" "[I", .fieldLink RX8 17 "CycleHouseModel" "to" "[I", .fieldLink RX8 33 "CycleHouseModel" "closing" "[J", .fieldLink RX8 36 "CycleHouseModel" "closer" "[I"] ++ wsX80)
def wsX8_reset : List Cond := .code yX8_reset cX8_reset 3 (some .int) :: ([.fieldLink RX8 61 "CycleHouseModel" "m" "I", .fieldLink RX8 7 "CycleHouseModel" "n" "I", .methodLink RX8 78 yX8_throwing, .instanceMethod yX8_throwing, .selects RX8 yX8_throwing yX8_throwing, .initialized RX8, .code yX8_throwing cX8_throwing 3 (some .boolean), .fieldLink RX8 58 "CycleHouseModel" "thrown" "I"] ++ wsX80)
def wsX8_edge_r1 : List Cond := [Cond.constant RX8 85 (1000000000), Cond.fieldLink RX8 61 "CycleHouseModel" "m" "I", Cond.fieldLink RX8 27 "CycleHouseModel" "group" "[I", Cond.fieldLink RX8 13 "CycleHouseModel" "from" "[I", Cond.fieldLink RX8 17 "CycleHouseModel" "to" "[I", Cond.fieldLink RX8 20 "CycleHouseModel" "weight" "[I", Cond.methodLink RX8 82 yX8_isVertex, Cond.instanceMethod yX8_isVertex, Cond.selects RX8 yX8_isVertex yX8_isVertex, Cond.initialized RX8, Cond.code yX8_isVertex cX8_isVertex 2 (some .boolean), Cond.fieldLink RX8 7 "CycleHouseModel" "n" "I", Cond.methodLink RX8 86 yX8_dimension, Cond.instanceMethod yX8_dimension, Cond.selects RX8 yX8_dimension yX8_dimension, Cond.code yX8_dimension cX8_dimension 1 (some .int), Cond.methodLink RX8 74 yX8_groups, Cond.instanceMethod yX8_groups, Cond.selects RX8 yX8_groups yX8_groups, Cond.code yX8_groups cX8_groups 3 (some .int), Cond.methodLink RX8 67 yX8_beginGroups, Cond.instanceMethod yX8_beginGroups, Cond.selects RX8 yX8_beginGroups yX8_beginGroups, Cond.code yX8_beginGroups cX8_beginGroups 2 none]
def wsX8_edge_r2 : List Cond := [Cond.fieldLink RX8 64 "CycleHouseModel" "closed" "I", Cond.fieldLink RX8 30 "CycleHouseModel" "ways" "[J", Cond.methodLink RX8 70 yX8_joins, Cond.instanceMethod yX8_joins, Cond.selects RX8 yX8_joins yX8_joins, Cond.code yX8_joins cX8_joins 8 (some .boolean), Cond.fieldLink RX8 33 "CycleHouseModel" "closing" "[J", Cond.fieldLink RX8 36 "CycleHouseModel" "closer" "[I", Cond.methodLink RX8 78 yX8_throwing, Cond.instanceMethod yX8_throwing, Cond.selects RX8 yX8_throwing yX8_throwing, Cond.code yX8_throwing cX8_throwing 3 (some .boolean), Cond.fieldLink RX8 58 "CycleHouseModel" "thrown" "I"]
def wsX8_edge : List Cond := .code yX8_edge cX8_edge 7 (some .int) :: ((wsX8_edge_r1 ++ wsX8_edge_r2) ++ wsX80)
def wsX8_drop : List Cond := .code yX8_drop cX8_drop 1 (some .int) :: ([.fieldLink RX8 61 "CycleHouseModel" "m" "I", .methodLink RX8 78 yX8_throwing, .instanceMethod yX8_throwing, .selects RX8 yX8_throwing yX8_throwing, .initialized RX8, .code yX8_throwing cX8_throwing 3 (some .boolean), .fieldLink RX8 58 "CycleHouseModel" "thrown" "I"] ++ wsX80)
def wsX8_weightOf : List Cond := .code yX8_weightOf cX8_weightOf 6 (some .long) :: ([.fieldLink RX8 61 "CycleHouseModel" "m" "I", .fieldLink RX8 20 "CycleHouseModel" "weight" "[I"] ++ wsX80)
def wsX8_beginsWith : List Cond := .code yX8_beginsWith cX8_beginsWith 5 (some .boolean) :: ([.fieldLink RX8 61 "CycleHouseModel" "m" "I", .methodLink RX8 67 yX8_beginGroups, .instanceMethod yX8_beginGroups, .selects RX8 yX8_beginGroups yX8_beginGroups, .initialized RX8, .code yX8_beginGroups cX8_beginGroups 2 none, .fieldLink RX8 64 "CycleHouseModel" "closed" "I", .fieldLink RX8 27 "CycleHouseModel" "group" "[I", .fieldLink RX8 30 "CycleHouseModel" "ways" "[J", .methodLink RX8 70 yX8_joins, .instanceMethod yX8_joins, .selects RX8 yX8_joins yX8_joins, .code yX8_joins cX8_joins 8 (some .boolean), .fieldLink RX8 13 "CycleHouseModel" "from" "[I", .fieldLink RX8 17 "CycleHouseModel" "to" "[I", .fieldLink RX8 33 "CycleHouseModel" "closing" "[J", .fieldLink RX8 36 "CycleHouseModel" "closer" "[I", .fieldLink RX8 7 "CycleHouseModel" "n" "I"] ++ wsX80)
def wsX8_hang : List Cond := .code yX8_hang cX8_hang 5 (some .boolean) :: ([.fieldLink RX8 7 "CycleHouseModel" "n" "I", .fieldLink RX8 54 "CycleHouseModel" "reached" "[Z", .fieldLink RX8 61 "CycleHouseModel" "m" "I", .fieldLink RX8 13 "CycleHouseModel" "from" "[I", .fieldLink RX8 17 "CycleHouseModel" "to" "[I"] ++ wsX80)
def wsX8_isFirst : List Cond := .code yX8_isFirst cX8_isFirst 4 (some .boolean) :: ([.fieldLink RX8 27 "CycleHouseModel" "group" "[I", .methodLink RX8 107 yX8_hang, .instanceMethod yX8_hang, .selects RX8 yX8_hang yX8_hang, .initialized RX8, .code yX8_hang cX8_hang 5 (some .boolean), .fieldLink RX8 7 "CycleHouseModel" "n" "I", .fieldLink RX8 54 "CycleHouseModel" "reached" "[Z", .fieldLink RX8 61 "CycleHouseModel" "m" "I", .fieldLink RX8 13 "CycleHouseModel" "from" "[I", .fieldLink RX8 17 "CycleHouseModel" "to" "[I"] ++ wsX80)
def wsX8_lay : List Cond := .code yX8_lay cX8_lay 3 none :: ([.fieldLink RX8 48 "CycleHouseModel" "matrix" "[J"] ++ wsX80)
def wsX8_determinant : List Cond := .code yX8_determinant cX8_determinant 9 (some .long) :: ([.fieldLink RX8 48 "CycleHouseModel" "matrix" "[J"] ++ wsX80)
def wsX8_forests_r1 : List Cond := [Cond.fieldLink RX8 7 "CycleHouseModel" "n" "I", Cond.fieldLink RX8 51 "CycleHouseModel" "place" "[I", Cond.fieldLink RX8 27 "CycleHouseModel" "group" "[I", Cond.fieldLink RX8 48 "CycleHouseModel" "matrix" "[J", Cond.fieldLink RX8 61 "CycleHouseModel" "m" "I", Cond.fieldLink RX8 13 "CycleHouseModel" "from" "[I", Cond.fieldLink RX8 17 "CycleHouseModel" "to" "[I", Cond.methodLink RX8 89 yX8_isSet, Cond.instanceMethod yX8_isSet, Cond.selects RX8 yX8_isSet yX8_isSet, Cond.initialized RX8, Cond.code yX8_isSet cX8_isSet 3 (some .boolean), Cond.methodLink RX8 78 yX8_throwing, Cond.instanceMethod yX8_throwing, Cond.selects RX8 yX8_throwing yX8_throwing, Cond.code yX8_throwing cX8_throwing 3 (some .boolean), Cond.fieldLink RX8 58 "CycleHouseModel" "thrown" "I", Cond.methodLink RX8 93 yX8_beginsWith, Cond.instanceMethod yX8_beginsWith, Cond.selects RX8 yX8_beginsWith yX8_beginsWith, Cond.code yX8_beginsWith cX8_beginsWith 5 (some .boolean), Cond.methodLink RX8 67 yX8_beginGroups, Cond.instanceMethod yX8_beginGroups, Cond.selects RX8 yX8_beginGroups yX8_beginGroups]
def wsX8_forests_r2 : List Cond := [Cond.code yX8_beginGroups cX8_beginGroups 2 none, Cond.fieldLink RX8 64 "CycleHouseModel" "closed" "I", Cond.fieldLink RX8 30 "CycleHouseModel" "ways" "[J", Cond.methodLink RX8 70 yX8_joins, Cond.instanceMethod yX8_joins, Cond.selects RX8 yX8_joins yX8_joins, Cond.code yX8_joins cX8_joins 8 (some .boolean), Cond.fieldLink RX8 33 "CycleHouseModel" "closing" "[J", Cond.fieldLink RX8 36 "CycleHouseModel" "closer" "[I", Cond.methodLink RX8 96 yX8_isFirst, Cond.instanceMethod yX8_isFirst, Cond.selects RX8 yX8_isFirst yX8_isFirst, Cond.code yX8_isFirst cX8_isFirst 4 (some .boolean), Cond.methodLink RX8 107 yX8_hang, Cond.instanceMethod yX8_hang, Cond.selects RX8 yX8_hang yX8_hang, Cond.code yX8_hang cX8_hang 5 (some .boolean), Cond.fieldLink RX8 54 "CycleHouseModel" "reached" "[Z", Cond.methodLink RX8 99 yX8_lay, Cond.instanceMethod yX8_lay, Cond.selects RX8 yX8_lay yX8_lay, Cond.code yX8_lay cX8_lay 3 none, Cond.methodLink RX8 103 yX8_determinant, Cond.instanceMethod yX8_determinant]
def wsX8_forests_r3 : List Cond := [Cond.selects RX8 yX8_determinant yX8_determinant, Cond.code yX8_determinant cX8_determinant 9 (some .long)]
def wsX8_forests : List Cond := .code yX8_forests cX8_forests 7 (some .long) :: ((wsX8_forests_r1 ++ (wsX8_forests_r2 ++ wsX8_forests_r3)) ++ wsX80)
def wsX8_lightest_r1 : List Cond := [Cond.constantLong RX8 111 (-1), Cond.fieldLink RX8 61 "CycleHouseModel" "m" "I", Cond.fieldLink RX8 27 "CycleHouseModel" "group" "[I", Cond.fieldLink RX8 13 "CycleHouseModel" "from" "[I", Cond.fieldLink RX8 17 "CycleHouseModel" "to" "[I", Cond.fieldLink RX8 20 "CycleHouseModel" "weight" "[I", Cond.methodLink RX8 89 yX8_isSet, Cond.instanceMethod yX8_isSet, Cond.selects RX8 yX8_isSet yX8_isSet, Cond.initialized RX8, Cond.code yX8_isSet cX8_isSet 3 (some .boolean), Cond.methodLink RX8 78 yX8_throwing, Cond.instanceMethod yX8_throwing, Cond.selects RX8 yX8_throwing yX8_throwing, Cond.code yX8_throwing cX8_throwing 3 (some .boolean), Cond.fieldLink RX8 58 "CycleHouseModel" "thrown" "I", Cond.methodLink RX8 93 yX8_beginsWith, Cond.instanceMethod yX8_beginsWith, Cond.selects RX8 yX8_beginsWith yX8_beginsWith, Cond.code yX8_beginsWith cX8_beginsWith 5 (some .boolean), Cond.methodLink RX8 67 yX8_beginGroups, Cond.instanceMethod yX8_beginGroups, Cond.selects RX8 yX8_beginGroups yX8_beginGroups, Cond.code yX8_beginGroups cX8_beginGroups 2 none]
def wsX8_lightest_r2 : List Cond := [Cond.fieldLink RX8 64 "CycleHouseModel" "closed" "I", Cond.fieldLink RX8 30 "CycleHouseModel" "ways" "[J", Cond.methodLink RX8 70 yX8_joins, Cond.instanceMethod yX8_joins, Cond.selects RX8 yX8_joins yX8_joins, Cond.code yX8_joins cX8_joins 8 (some .boolean), Cond.fieldLink RX8 33 "CycleHouseModel" "closing" "[J", Cond.fieldLink RX8 36 "CycleHouseModel" "closer" "[I", Cond.fieldLink RX8 7 "CycleHouseModel" "n" "I", Cond.methodLink RX8 113 yX8_weightOf, Cond.instanceMethod yX8_weightOf, Cond.selects RX8 yX8_weightOf yX8_weightOf, Cond.code yX8_weightOf cX8_weightOf 6 (some .long)]
def wsX8_lightest : List Cond := .code yX8_lightest cX8_lightest 8 (some .long) :: ((wsX8_lightest_r1 ++ wsX8_lightest_r2) ++ wsX80)
def wsX8_spread_r1 : List Cond := [Cond.fieldLink RX8 39 "CycleHouseModel" "elements" "[J", Cond.fieldLink RX8 64 "CycleHouseModel" "closed" "I", Cond.fieldLink RX8 33 "CycleHouseModel" "closing" "[J", Cond.fieldLink RX8 42 "CycleHouseModel" "weights" "[J", Cond.methodLink RX8 86 yX8_dimension, Cond.instanceMethod yX8_dimension, Cond.selects RX8 yX8_dimension yX8_dimension, Cond.initialized RX8, Cond.code yX8_dimension cX8_dimension 1 (some .int), Cond.fieldLink RX8 61 "CycleHouseModel" "m" "I", Cond.fieldLink RX8 7 "CycleHouseModel" "n" "I", Cond.methodLink RX8 74 yX8_groups, Cond.instanceMethod yX8_groups, Cond.selects RX8 yX8_groups yX8_groups, Cond.code yX8_groups cX8_groups 3 (some .int), Cond.methodLink RX8 67 yX8_beginGroups, Cond.instanceMethod yX8_beginGroups, Cond.selects RX8 yX8_beginGroups yX8_beginGroups, Cond.code yX8_beginGroups cX8_beginGroups 2 none, Cond.fieldLink RX8 27 "CycleHouseModel" "group" "[I", Cond.fieldLink RX8 30 "CycleHouseModel" "ways" "[J", Cond.methodLink RX8 70 yX8_joins, Cond.instanceMethod yX8_joins, Cond.selects RX8 yX8_joins yX8_joins]
def wsX8_spread_r2 : List Cond := [Cond.code yX8_joins cX8_joins 8 (some .boolean), Cond.fieldLink RX8 13 "CycleHouseModel" "from" "[I", Cond.fieldLink RX8 17 "CycleHouseModel" "to" "[I", Cond.fieldLink RX8 36 "CycleHouseModel" "closer" "[I", Cond.methodLink RX8 113 yX8_weightOf, Cond.instanceMethod yX8_weightOf, Cond.selects RX8 yX8_weightOf yX8_weightOf, Cond.code yX8_weightOf cX8_weightOf 6 (some .long), Cond.fieldLink RX8 20 "CycleHouseModel" "weight" "[I"]
def wsX8_spread : List Cond := .code yX8_spread cX8_spread 4 (some .int) :: ((wsX8_spread_r1 ++ wsX8_spread_r2) ++ wsX80)
def wsX8_endsAt : List Cond := .code yX8_endsAt cX8_endsAt 6 (some .int) :: ([.fieldLink RX8 61 "CycleHouseModel" "m" "I", .fieldLink RX8 13 "CycleHouseModel" "from" "[I", .fieldLink RX8 17 "CycleHouseModel" "to" "[I"] ++ wsX80)
def wsX8_isEven : List Cond := .code yX8_isEven cX8_isEven 5 (some .boolean) :: ([.fieldLink RX8 7 "CycleHouseModel" "n" "I", .methodLink RX8 117 yX8_endsAt, .instanceMethod yX8_endsAt, .selects RX8 yX8_endsAt yX8_endsAt, .initialized RX8, .code yX8_endsAt cX8_endsAt 6 (some .int), .fieldLink RX8 61 "CycleHouseModel" "m" "I", .fieldLink RX8 13 "CycleHouseModel" "from" "[I", .fieldLink RX8 17 "CycleHouseModel" "to" "[I"] ++ wsX80)
def wsX8_isRing : List Cond := .code yX8_isRing cX8_isRing 7 (some .boolean) :: ([.fieldLink RX8 7 "CycleHouseModel" "n" "I", .fieldLink RX8 61 "CycleHouseModel" "m" "I", .methodLink RX8 117 yX8_endsAt, .instanceMethod yX8_endsAt, .selects RX8 yX8_endsAt yX8_endsAt, .initialized RX8, .code yX8_endsAt cX8_endsAt 6 (some .int), .fieldLink RX8 13 "CycleHouseModel" "from" "[I", .fieldLink RX8 17 "CycleHouseModel" "to" "[I", .methodLink RX8 67 yX8_beginGroups, .instanceMethod yX8_beginGroups, .selects RX8 yX8_beginGroups yX8_beginGroups, .code yX8_beginGroups cX8_beginGroups 2 none, .fieldLink RX8 64 "CycleHouseModel" "closed" "I", .fieldLink RX8 27 "CycleHouseModel" "group" "[I", .fieldLink RX8 30 "CycleHouseModel" "ways" "[J", .methodLink RX8 70 yX8_joins, .instanceMethod yX8_joins, .selects RX8 yX8_joins yX8_joins, .code yX8_joins cX8_joins 8 (some .boolean), .fieldLink RX8 33 "CycleHouseModel" "closing" "[J", .fieldLink RX8 36 "CycleHouseModel" "closer" "[I"] ++ wsX80)
def wsX8_isCycle_r1 : List Cond := [Cond.methodLink RX8 89 yX8_isSet, Cond.instanceMethod yX8_isSet, Cond.selects RX8 yX8_isSet yX8_isSet, Cond.initialized RX8, Cond.code yX8_isSet cX8_isSet 3 (some .boolean), Cond.fieldLink RX8 61 "CycleHouseModel" "m" "I", Cond.methodLink RX8 78 yX8_throwing, Cond.instanceMethod yX8_throwing, Cond.selects RX8 yX8_throwing yX8_throwing, Cond.code yX8_throwing cX8_throwing 3 (some .boolean), Cond.fieldLink RX8 58 "CycleHouseModel" "thrown" "I", Cond.methodLink RX8 121 yX8_isEven, Cond.instanceMethod yX8_isEven, Cond.selects RX8 yX8_isEven yX8_isEven, Cond.code yX8_isEven cX8_isEven 5 (some .boolean), Cond.fieldLink RX8 7 "CycleHouseModel" "n" "I", Cond.methodLink RX8 117 yX8_endsAt, Cond.instanceMethod yX8_endsAt, Cond.selects RX8 yX8_endsAt yX8_endsAt, Cond.code yX8_endsAt cX8_endsAt 6 (some .int), Cond.fieldLink RX8 13 "CycleHouseModel" "from" "[I", Cond.fieldLink RX8 17 "CycleHouseModel" "to" "[I", Cond.methodLink RX8 124 yX8_isRing, Cond.instanceMethod yX8_isRing]
def wsX8_isCycle_r2 : List Cond := [Cond.selects RX8 yX8_isRing yX8_isRing, Cond.code yX8_isRing cX8_isRing 7 (some .boolean), Cond.methodLink RX8 67 yX8_beginGroups, Cond.instanceMethod yX8_beginGroups, Cond.selects RX8 yX8_beginGroups yX8_beginGroups, Cond.code yX8_beginGroups cX8_beginGroups 2 none, Cond.fieldLink RX8 64 "CycleHouseModel" "closed" "I", Cond.fieldLink RX8 27 "CycleHouseModel" "group" "[I", Cond.fieldLink RX8 30 "CycleHouseModel" "ways" "[J", Cond.methodLink RX8 70 yX8_joins, Cond.instanceMethod yX8_joins, Cond.selects RX8 yX8_joins yX8_joins, Cond.code yX8_joins cX8_joins 8 (some .boolean), Cond.fieldLink RX8 33 "CycleHouseModel" "closing" "[J", Cond.fieldLink RX8 36 "CycleHouseModel" "closer" "[I"]
def wsX8_isCycle : List Cond := .code yX8_isCycle cX8_isCycle 3 (some .int) :: ((wsX8_isCycle_r1 ++ wsX8_isCycle_r2) ++ wsX80)
def wsX8_through_r1 : List Cond := [Cond.fieldLink RX8 61 "CycleHouseModel" "m" "I", Cond.constantLong RX8 111 (-1), Cond.fieldLink RX8 39 "CycleHouseModel" "elements" "[J", Cond.fieldLink RX8 42 "CycleHouseModel" "weights" "[J", Cond.methodLink RX8 78 yX8_throwing, Cond.instanceMethod yX8_throwing, Cond.selects RX8 yX8_throwing yX8_throwing, Cond.initialized RX8, Cond.code yX8_throwing cX8_throwing 3 (some .boolean), Cond.fieldLink RX8 58 "CycleHouseModel" "thrown" "I", Cond.methodLink RX8 127 yX8_spread, Cond.instanceMethod yX8_spread, Cond.selects RX8 yX8_spread yX8_spread, Cond.code yX8_spread cX8_spread 4 (some .int), Cond.fieldLink RX8 64 "CycleHouseModel" "closed" "I", Cond.fieldLink RX8 33 "CycleHouseModel" "closing" "[J", Cond.methodLink RX8 86 yX8_dimension, Cond.instanceMethod yX8_dimension, Cond.selects RX8 yX8_dimension yX8_dimension, Cond.code yX8_dimension cX8_dimension 1 (some .int), Cond.fieldLink RX8 7 "CycleHouseModel" "n" "I", Cond.methodLink RX8 74 yX8_groups, Cond.instanceMethod yX8_groups, Cond.selects RX8 yX8_groups yX8_groups]
def wsX8_through_r2 : List Cond := [Cond.code yX8_groups cX8_groups 3 (some .int), Cond.methodLink RX8 67 yX8_beginGroups, Cond.instanceMethod yX8_beginGroups, Cond.selects RX8 yX8_beginGroups yX8_beginGroups, Cond.code yX8_beginGroups cX8_beginGroups 2 none, Cond.fieldLink RX8 27 "CycleHouseModel" "group" "[I", Cond.fieldLink RX8 30 "CycleHouseModel" "ways" "[J", Cond.methodLink RX8 70 yX8_joins, Cond.instanceMethod yX8_joins, Cond.selects RX8 yX8_joins yX8_joins, Cond.code yX8_joins cX8_joins 8 (some .boolean), Cond.fieldLink RX8 13 "CycleHouseModel" "from" "[I", Cond.fieldLink RX8 17 "CycleHouseModel" "to" "[I", Cond.fieldLink RX8 36 "CycleHouseModel" "closer" "[I", Cond.methodLink RX8 113 yX8_weightOf, Cond.instanceMethod yX8_weightOf, Cond.selects RX8 yX8_weightOf yX8_weightOf, Cond.code yX8_weightOf cX8_weightOf 6 (some .long), Cond.fieldLink RX8 20 "CycleHouseModel" "weight" "[I"]
def wsX8_through : List Cond := .code yX8_through cX8_through 6 (some .long) :: ((wsX8_through_r1 ++ wsX8_through_r2) ++ wsX80)
def wsX8_rest : List Cond := .code yX8_rest cX8_rest 6 (some .long) :: ([.fieldLink RX8 130 "CycleHouseModel" "rowed" "I", .fieldLink RX8 45 "CycleHouseModel" "rows" "[J"] ++ wsX80)
def wsX8_take : List Cond := .code yX8_take cX8_take 6 (some .boolean) :: ([.fieldLink RX8 130 "CycleHouseModel" "rowed" "I", .fieldLink RX8 45 "CycleHouseModel" "rows" "[J", .methodLink RX8 133 yX8_rest, .instanceMethod yX8_rest, .selects RX8 yX8_rest yX8_rest, .initialized RX8, .code yX8_rest cX8_rest 6 (some .long)] ++ wsX80)
def wsX8_basis_r1 : List Cond := [Cond.fieldLink RX8 130 "CycleHouseModel" "rowed" "I", Cond.fieldLink RX8 42 "CycleHouseModel" "weights" "[J", Cond.methodLink RX8 86 yX8_dimension, Cond.instanceMethod yX8_dimension, Cond.selects RX8 yX8_dimension yX8_dimension, Cond.initialized RX8, Cond.code yX8_dimension cX8_dimension 1 (some .int), Cond.fieldLink RX8 61 "CycleHouseModel" "m" "I", Cond.fieldLink RX8 7 "CycleHouseModel" "n" "I", Cond.methodLink RX8 74 yX8_groups, Cond.instanceMethod yX8_groups, Cond.selects RX8 yX8_groups yX8_groups, Cond.code yX8_groups cX8_groups 3 (some .int), Cond.methodLink RX8 67 yX8_beginGroups, Cond.instanceMethod yX8_beginGroups, Cond.selects RX8 yX8_beginGroups yX8_beginGroups, Cond.code yX8_beginGroups cX8_beginGroups 2 none, Cond.fieldLink RX8 64 "CycleHouseModel" "closed" "I", Cond.fieldLink RX8 27 "CycleHouseModel" "group" "[I", Cond.fieldLink RX8 30 "CycleHouseModel" "ways" "[J", Cond.methodLink RX8 70 yX8_joins, Cond.instanceMethod yX8_joins, Cond.selects RX8 yX8_joins yX8_joins, Cond.code yX8_joins cX8_joins 8 (some .boolean)]
def wsX8_basis_r2 : List Cond := [Cond.fieldLink RX8 13 "CycleHouseModel" "from" "[I", Cond.fieldLink RX8 17 "CycleHouseModel" "to" "[I", Cond.fieldLink RX8 33 "CycleHouseModel" "closing" "[J", Cond.fieldLink RX8 36 "CycleHouseModel" "closer" "[I", Cond.methodLink RX8 78 yX8_throwing, Cond.instanceMethod yX8_throwing, Cond.selects RX8 yX8_throwing yX8_throwing, Cond.code yX8_throwing cX8_throwing 3 (some .boolean), Cond.fieldLink RX8 58 "CycleHouseModel" "thrown" "I", Cond.methodLink RX8 127 yX8_spread, Cond.instanceMethod yX8_spread, Cond.selects RX8 yX8_spread yX8_spread, Cond.code yX8_spread cX8_spread 4 (some .int), Cond.fieldLink RX8 39 "CycleHouseModel" "elements" "[J", Cond.methodLink RX8 113 yX8_weightOf, Cond.instanceMethod yX8_weightOf, Cond.selects RX8 yX8_weightOf yX8_weightOf, Cond.code yX8_weightOf cX8_weightOf 6 (some .long), Cond.fieldLink RX8 20 "CycleHouseModel" "weight" "[I", Cond.methodLink RX8 133 yX8_rest, Cond.instanceMethod yX8_rest, Cond.selects RX8 yX8_rest yX8_rest, Cond.code yX8_rest cX8_rest 6 (some .long), Cond.fieldLink RX8 45 "CycleHouseModel" "rows" "[J"]
def wsX8_basis_r3 : List Cond := [Cond.methodLink RX8 136 yX8_take, Cond.instanceMethod yX8_take, Cond.selects RX8 yX8_take yX8_take, Cond.code yX8_take cX8_take 6 (some .boolean)]
def wsX8_basis : List Cond := .code yX8_basis cX8_basis 9 (some .long) :: ((wsX8_basis_r1 ++ (wsX8_basis_r2 ++ wsX8_basis_r3)) ++ wsX80)
def wsX8_numberOf : List Cond := .code yX8_numberOf cX8_numberOf 5 (some .int) :: ([.fieldLink RX8 64 "CycleHouseModel" "closed" "I", .fieldLink RX8 36 "CycleHouseModel" "closer" "[I"] ++ wsX80)
def wsX8_belongs_r1 : List Cond := [Cond.fieldLink RX8 130 "CycleHouseModel" "rowed" "I", Cond.fieldLink RX8 42 "CycleHouseModel" "weights" "[J", Cond.methodLink RX8 89 yX8_isSet, Cond.instanceMethod yX8_isSet, Cond.selects RX8 yX8_isSet yX8_isSet, Cond.initialized RX8, Cond.code yX8_isSet cX8_isSet 3 (some .boolean), Cond.fieldLink RX8 61 "CycleHouseModel" "m" "I", Cond.methodLink RX8 78 yX8_throwing, Cond.instanceMethod yX8_throwing, Cond.selects RX8 yX8_throwing yX8_throwing, Cond.code yX8_throwing cX8_throwing 3 (some .boolean), Cond.fieldLink RX8 58 "CycleHouseModel" "thrown" "I", Cond.methodLink RX8 121 yX8_isEven, Cond.instanceMethod yX8_isEven, Cond.selects RX8 yX8_isEven yX8_isEven, Cond.code yX8_isEven cX8_isEven 5 (some .boolean), Cond.fieldLink RX8 7 "CycleHouseModel" "n" "I", Cond.methodLink RX8 117 yX8_endsAt, Cond.instanceMethod yX8_endsAt, Cond.selects RX8 yX8_endsAt yX8_endsAt, Cond.code yX8_endsAt cX8_endsAt 6 (some .int), Cond.fieldLink RX8 13 "CycleHouseModel" "from" "[I", Cond.fieldLink RX8 17 "CycleHouseModel" "to" "[I"]
def wsX8_belongs_r2 : List Cond := [Cond.methodLink RX8 127 yX8_spread, Cond.instanceMethod yX8_spread, Cond.selects RX8 yX8_spread yX8_spread, Cond.code yX8_spread cX8_spread 4 (some .int), Cond.fieldLink RX8 39 "CycleHouseModel" "elements" "[J", Cond.fieldLink RX8 64 "CycleHouseModel" "closed" "I", Cond.fieldLink RX8 33 "CycleHouseModel" "closing" "[J", Cond.methodLink RX8 86 yX8_dimension, Cond.instanceMethod yX8_dimension, Cond.selects RX8 yX8_dimension yX8_dimension, Cond.code yX8_dimension cX8_dimension 1 (some .int), Cond.methodLink RX8 74 yX8_groups, Cond.instanceMethod yX8_groups, Cond.selects RX8 yX8_groups yX8_groups, Cond.code yX8_groups cX8_groups 3 (some .int), Cond.methodLink RX8 67 yX8_beginGroups, Cond.instanceMethod yX8_beginGroups, Cond.selects RX8 yX8_beginGroups yX8_beginGroups, Cond.code yX8_beginGroups cX8_beginGroups 2 none, Cond.fieldLink RX8 27 "CycleHouseModel" "group" "[I", Cond.fieldLink RX8 30 "CycleHouseModel" "ways" "[J", Cond.methodLink RX8 70 yX8_joins, Cond.instanceMethod yX8_joins, Cond.selects RX8 yX8_joins yX8_joins]
def wsX8_belongs_r3 : List Cond := [Cond.code yX8_joins cX8_joins 8 (some .boolean), Cond.fieldLink RX8 36 "CycleHouseModel" "closer" "[I", Cond.methodLink RX8 113 yX8_weightOf, Cond.instanceMethod yX8_weightOf, Cond.selects RX8 yX8_weightOf yX8_weightOf, Cond.code yX8_weightOf cX8_weightOf 6 (some .long), Cond.fieldLink RX8 20 "CycleHouseModel" "weight" "[I", Cond.methodLink RX8 139 yX8_numberOf, Cond.instanceMethod yX8_numberOf, Cond.selects RX8 yX8_numberOf yX8_numberOf, Cond.code yX8_numberOf cX8_numberOf 5 (some .int), Cond.methodLink RX8 136 yX8_take, Cond.instanceMethod yX8_take, Cond.selects RX8 yX8_take yX8_take, Cond.code yX8_take cX8_take 6 (some .boolean), Cond.fieldLink RX8 45 "CycleHouseModel" "rows" "[J", Cond.methodLink RX8 133 yX8_rest, Cond.instanceMethod yX8_rest, Cond.selects RX8 yX8_rest yX8_rest, Cond.code yX8_rest cX8_rest 6 (some .long)]
def wsX8_belongs : List Cond := .code yX8_belongs cX8_belongs 7 (some .boolean) :: ((wsX8_belongs_r1 ++ (wsX8_belongs_r2 ++ wsX8_belongs_r3)) ++ wsX80)
def wsX8_cycles_r1 : List Cond := [Cond.fieldLink RX8 58 "CycleHouseModel" "thrown" "I", Cond.fieldLink RX8 39 "CycleHouseModel" "elements" "[J", Cond.methodLink RX8 127 yX8_spread, Cond.instanceMethod yX8_spread, Cond.selects RX8 yX8_spread yX8_spread, Cond.initialized RX8, Cond.code yX8_spread cX8_spread 4 (some .int), Cond.fieldLink RX8 64 "CycleHouseModel" "closed" "I", Cond.fieldLink RX8 33 "CycleHouseModel" "closing" "[J", Cond.fieldLink RX8 42 "CycleHouseModel" "weights" "[J", Cond.methodLink RX8 86 yX8_dimension, Cond.instanceMethod yX8_dimension, Cond.selects RX8 yX8_dimension yX8_dimension, Cond.code yX8_dimension cX8_dimension 1 (some .int), Cond.fieldLink RX8 61 "CycleHouseModel" "m" "I", Cond.fieldLink RX8 7 "CycleHouseModel" "n" "I", Cond.methodLink RX8 74 yX8_groups, Cond.instanceMethod yX8_groups, Cond.selects RX8 yX8_groups yX8_groups, Cond.code yX8_groups cX8_groups 3 (some .int), Cond.methodLink RX8 67 yX8_beginGroups, Cond.instanceMethod yX8_beginGroups, Cond.selects RX8 yX8_beginGroups yX8_beginGroups, Cond.code yX8_beginGroups cX8_beginGroups 2 none]
def wsX8_cycles_r2 : List Cond := [Cond.fieldLink RX8 27 "CycleHouseModel" "group" "[I", Cond.fieldLink RX8 30 "CycleHouseModel" "ways" "[J", Cond.methodLink RX8 70 yX8_joins, Cond.instanceMethod yX8_joins, Cond.selects RX8 yX8_joins yX8_joins, Cond.code yX8_joins cX8_joins 8 (some .boolean), Cond.fieldLink RX8 13 "CycleHouseModel" "from" "[I", Cond.fieldLink RX8 17 "CycleHouseModel" "to" "[I", Cond.fieldLink RX8 36 "CycleHouseModel" "closer" "[I", Cond.methodLink RX8 113 yX8_weightOf, Cond.instanceMethod yX8_weightOf, Cond.selects RX8 yX8_weightOf yX8_weightOf, Cond.code yX8_weightOf cX8_weightOf 6 (some .long), Cond.fieldLink RX8 20 "CycleHouseModel" "weight" "[I", Cond.methodLink RX8 124 yX8_isRing, Cond.instanceMethod yX8_isRing, Cond.selects RX8 yX8_isRing yX8_isRing, Cond.code yX8_isRing cX8_isRing 7 (some .boolean), Cond.methodLink RX8 117 yX8_endsAt, Cond.instanceMethod yX8_endsAt, Cond.selects RX8 yX8_endsAt yX8_endsAt, Cond.code yX8_endsAt cX8_endsAt 6 (some .int)]
def wsX8_cycles : List Cond := .code yX8_cycles cX8_cycles 4 (some .int) :: ((wsX8_cycles_r1 ++ wsX8_cycles_r2) ++ wsX80)
def wsX8_light_r1 : List Cond := [Cond.fieldLink RX8 58 "CycleHouseModel" "thrown" "I", Cond.fieldLink RX8 42 "CycleHouseModel" "weights" "[J", Cond.methodLink RX8 127 yX8_spread, Cond.instanceMethod yX8_spread, Cond.selects RX8 yX8_spread yX8_spread, Cond.initialized RX8, Cond.code yX8_spread cX8_spread 4 (some .int), Cond.fieldLink RX8 39 "CycleHouseModel" "elements" "[J", Cond.fieldLink RX8 64 "CycleHouseModel" "closed" "I", Cond.fieldLink RX8 33 "CycleHouseModel" "closing" "[J", Cond.methodLink RX8 86 yX8_dimension, Cond.instanceMethod yX8_dimension, Cond.selects RX8 yX8_dimension yX8_dimension, Cond.code yX8_dimension cX8_dimension 1 (some .int), Cond.fieldLink RX8 61 "CycleHouseModel" "m" "I", Cond.fieldLink RX8 7 "CycleHouseModel" "n" "I", Cond.methodLink RX8 74 yX8_groups, Cond.instanceMethod yX8_groups, Cond.selects RX8 yX8_groups yX8_groups, Cond.code yX8_groups cX8_groups 3 (some .int), Cond.methodLink RX8 67 yX8_beginGroups, Cond.instanceMethod yX8_beginGroups, Cond.selects RX8 yX8_beginGroups yX8_beginGroups, Cond.code yX8_beginGroups cX8_beginGroups 2 none]
def wsX8_light_r2 : List Cond := [Cond.fieldLink RX8 27 "CycleHouseModel" "group" "[I", Cond.fieldLink RX8 30 "CycleHouseModel" "ways" "[J", Cond.methodLink RX8 70 yX8_joins, Cond.instanceMethod yX8_joins, Cond.selects RX8 yX8_joins yX8_joins, Cond.code yX8_joins cX8_joins 8 (some .boolean), Cond.fieldLink RX8 13 "CycleHouseModel" "from" "[I", Cond.fieldLink RX8 17 "CycleHouseModel" "to" "[I", Cond.fieldLink RX8 36 "CycleHouseModel" "closer" "[I", Cond.methodLink RX8 113 yX8_weightOf, Cond.instanceMethod yX8_weightOf, Cond.selects RX8 yX8_weightOf yX8_weightOf, Cond.code yX8_weightOf cX8_weightOf 6 (some .long), Cond.fieldLink RX8 20 "CycleHouseModel" "weight" "[I"]
def wsX8_light : List Cond := .code yX8_light cX8_light 6 (some .int) :: ((wsX8_light_r1 ++ wsX8_light_r2) ++ wsX80)
def wsX8_add : List Cond := .code yX8_add cX8_add 3 (some .int) :: ([.fieldLink RX8 143 "CycleHouseModel" "listed" "I", .fieldLink RX8 23 "CycleHouseModel" "list" "[J", .methodLink RX8 78 yX8_throwing, .instanceMethod yX8_throwing, .selects RX8 yX8_throwing yX8_throwing, .initialized RX8, .code yX8_throwing cX8_throwing 3 (some .boolean), .fieldLink RX8 58 "CycleHouseModel" "thrown" "I"] ++ wsX80)
def wsX8_clear : List Cond := .code yX8_clear cX8_clear 2 (some .int) :: ([.fieldLink RX8 58 "CycleHouseModel" "thrown" "I", .fieldLink RX8 143 "CycleHouseModel" "listed" "I"] ++ wsX80)
def wsX8_takeList : List Cond := .code yX8_takeList cX8_takeList 3 none :: ([.fieldLink RX8 130 "CycleHouseModel" "rowed" "I", .fieldLink RX8 143 "CycleHouseModel" "listed" "I", .fieldLink RX8 23 "CycleHouseModel" "list" "[J", .methodLink RX8 136 yX8_take, .instanceMethod yX8_take, .selects RX8 yX8_take yX8_take, .initialized RX8, .code yX8_take cX8_take 6 (some .boolean), .fieldLink RX8 45 "CycleHouseModel" "rows" "[J", .methodLink RX8 133 yX8_rest, .instanceMethod yX8_rest, .selects RX8 yX8_rest yX8_rest, .code yX8_rest cX8_rest 6 (some .long)] ++ wsX80)
def wsX8_spans : List Cond := .code yX8_spans cX8_spans 3 (some .boolean) :: ([.methodLink RX8 78 yX8_throwing, .instanceMethod yX8_throwing, .selects RX8 yX8_throwing yX8_throwing, .initialized RX8, .code yX8_throwing cX8_throwing 3 (some .boolean), .fieldLink RX8 58 "CycleHouseModel" "thrown" "I", .methodLink RX8 146 yX8_takeList, .instanceMethod yX8_takeList, .selects RX8 yX8_takeList yX8_takeList, .code yX8_takeList cX8_takeList 3 none, .fieldLink RX8 130 "CycleHouseModel" "rowed" "I", .fieldLink RX8 143 "CycleHouseModel" "listed" "I", .fieldLink RX8 23 "CycleHouseModel" "list" "[J", .methodLink RX8 136 yX8_take, .instanceMethod yX8_take, .selects RX8 yX8_take yX8_take, .code yX8_take cX8_take 6 (some .boolean), .fieldLink RX8 45 "CycleHouseModel" "rows" "[J", .methodLink RX8 133 yX8_rest, .instanceMethod yX8_rest, .selects RX8 yX8_rest yX8_rest, .code yX8_rest cX8_rest 6 (some .long)] ++ wsX80)
def wsX8_alone : List Cond := .code yX8_alone cX8_alone 6 (some .int) :: ([.fieldLink RX8 61 "CycleHouseModel" "m" "I", .fieldLink RX8 7 "CycleHouseModel" "n" "I", .methodLink RX8 74 yX8_groups, .instanceMethod yX8_groups, .selects RX8 yX8_groups yX8_groups, .initialized RX8, .code yX8_groups cX8_groups 3 (some .int), .methodLink RX8 67 yX8_beginGroups, .instanceMethod yX8_beginGroups, .selects RX8 yX8_beginGroups yX8_beginGroups, .code yX8_beginGroups cX8_beginGroups 2 none, .fieldLink RX8 64 "CycleHouseModel" "closed" "I", .fieldLink RX8 27 "CycleHouseModel" "group" "[I", .fieldLink RX8 30 "CycleHouseModel" "ways" "[J", .methodLink RX8 70 yX8_joins, .instanceMethod yX8_joins, .selects RX8 yX8_joins yX8_joins, .code yX8_joins cX8_joins 8 (some .boolean), .fieldLink RX8 13 "CycleHouseModel" "from" "[I", .fieldLink RX8 17 "CycleHouseModel" "to" "[I", .fieldLink RX8 33 "CycleHouseModel" "closing" "[J", .fieldLink RX8 36 "CycleHouseModel" "closer" "[I"] ++ wsX80)
def wsX8_areEven : List Cond := .code yX8_areEven cX8_areEven 6 (some .boolean) :: ([.fieldLink RX8 64 "CycleHouseModel" "closed" "I", .fieldLink RX8 61 "CycleHouseModel" "m" "I", .fieldLink RX8 33 "CycleHouseModel" "closing" "[J", .methodLink RX8 74 yX8_groups, .instanceMethod yX8_groups, .selects RX8 yX8_groups yX8_groups, .initialized RX8, .code yX8_groups cX8_groups 3 (some .int), .fieldLink RX8 7 "CycleHouseModel" "n" "I", .methodLink RX8 67 yX8_beginGroups, .instanceMethod yX8_beginGroups, .selects RX8 yX8_beginGroups yX8_beginGroups, .code yX8_beginGroups cX8_beginGroups 2 none, .fieldLink RX8 27 "CycleHouseModel" "group" "[I", .fieldLink RX8 30 "CycleHouseModel" "ways" "[J", .methodLink RX8 70 yX8_joins, .instanceMethod yX8_joins, .selects RX8 yX8_joins yX8_joins, .code yX8_joins cX8_joins 8 (some .boolean), .fieldLink RX8 13 "CycleHouseModel" "from" "[I", .fieldLink RX8 17 "CycleHouseModel" "to" "[I", .fieldLink RX8 36 "CycleHouseModel" "closer" "[I"] ++ wsX80)
def wsX8_parting : List Cond := .code yX8_parting cX8_parting 6 (some .int) :: ([.fieldLink RX8 7 "CycleHouseModel" "n" "I", .fieldLink RX8 61 "CycleHouseModel" "m" "I", .fieldLink RX8 13 "CycleHouseModel" "from" "[I", .fieldLink RX8 17 "CycleHouseModel" "to" "[I", .methodLink RX8 74 yX8_groups, .instanceMethod yX8_groups, .selects RX8 yX8_groups yX8_groups, .initialized RX8, .code yX8_groups cX8_groups 3 (some .int), .methodLink RX8 67 yX8_beginGroups, .instanceMethod yX8_beginGroups, .selects RX8 yX8_beginGroups yX8_beginGroups, .code yX8_beginGroups cX8_beginGroups 2 none, .fieldLink RX8 64 "CycleHouseModel" "closed" "I", .fieldLink RX8 27 "CycleHouseModel" "group" "[I", .fieldLink RX8 30 "CycleHouseModel" "ways" "[J", .methodLink RX8 70 yX8_joins, .instanceMethod yX8_joins, .selects RX8 yX8_joins yX8_joins, .code yX8_joins cX8_joins 8 (some .boolean), .fieldLink RX8 33 "CycleHouseModel" "closing" "[J", .fieldLink RX8 36 "CycleHouseModel" "closer" "[I"] ++ wsX80)
def wsX8_rank : List Cond := .code yX8_rank cX8_rank 1 (some .int) :: ([.fieldLink RX8 130 "CycleHouseModel" "rowed" "I", .methodLink RX8 146 yX8_takeList, .instanceMethod yX8_takeList, .selects RX8 yX8_takeList yX8_takeList, .initialized RX8, .code yX8_takeList cX8_takeList 3 none, .fieldLink RX8 143 "CycleHouseModel" "listed" "I", .fieldLink RX8 23 "CycleHouseModel" "list" "[J", .methodLink RX8 136 yX8_take, .instanceMethod yX8_take, .selects RX8 yX8_take yX8_take, .code yX8_take cX8_take 6 (some .boolean), .fieldLink RX8 45 "CycleHouseModel" "rows" "[J", .methodLink RX8 133 yX8_rest, .instanceMethod yX8_rest, .selects RX8 yX8_rest yX8_rest, .code yX8_rest cX8_rest 6 (some .long)] ++ wsX80)
def wsX8_look_r1 : List Cond := [Cond.fieldLink RX8 7 "CycleHouseModel" "n" "I", Cond.fieldLink RX8 61 "CycleHouseModel" "m" "I", Cond.fieldLink RX8 143 "CycleHouseModel" "listed" "I", Cond.methodLink RX8 78 yX8_throwing, Cond.instanceMethod yX8_throwing, Cond.selects RX8 yX8_throwing yX8_throwing, Cond.initialized RX8, Cond.code yX8_throwing cX8_throwing 3 (some .boolean), Cond.fieldLink RX8 58 "CycleHouseModel" "thrown" "I", Cond.methodLink RX8 74 yX8_groups, Cond.instanceMethod yX8_groups, Cond.selects RX8 yX8_groups yX8_groups, Cond.code yX8_groups cX8_groups 3 (some .int), Cond.methodLink RX8 67 yX8_beginGroups, Cond.instanceMethod yX8_beginGroups, Cond.selects RX8 yX8_beginGroups yX8_beginGroups, Cond.code yX8_beginGroups cX8_beginGroups 2 none, Cond.fieldLink RX8 64 "CycleHouseModel" "closed" "I", Cond.fieldLink RX8 27 "CycleHouseModel" "group" "[I", Cond.fieldLink RX8 30 "CycleHouseModel" "ways" "[J", Cond.methodLink RX8 70 yX8_joins, Cond.instanceMethod yX8_joins, Cond.selects RX8 yX8_joins yX8_joins, Cond.code yX8_joins cX8_joins 8 (some .boolean)]
def wsX8_look_r2 : List Cond := [Cond.fieldLink RX8 13 "CycleHouseModel" "from" "[I", Cond.fieldLink RX8 17 "CycleHouseModel" "to" "[I", Cond.fieldLink RX8 33 "CycleHouseModel" "closing" "[J", Cond.fieldLink RX8 36 "CycleHouseModel" "closer" "[I", Cond.methodLink RX8 86 yX8_dimension, Cond.instanceMethod yX8_dimension, Cond.selects RX8 yX8_dimension yX8_dimension, Cond.code yX8_dimension cX8_dimension 1 (some .int), Cond.methodLink RX8 149 yX8_alone, Cond.instanceMethod yX8_alone, Cond.selects RX8 yX8_alone yX8_alone, Cond.code yX8_alone cX8_alone 6 (some .int), Cond.methodLink RX8 152 yX8_areEven, Cond.instanceMethod yX8_areEven, Cond.selects RX8 yX8_areEven yX8_areEven, Cond.code yX8_areEven cX8_areEven 6 (some .boolean), Cond.methodLink RX8 156 yX8_rank, Cond.instanceMethod yX8_rank, Cond.selects RX8 yX8_rank yX8_rank, Cond.code yX8_rank cX8_rank 1 (some .int), Cond.fieldLink RX8 130 "CycleHouseModel" "rowed" "I", Cond.methodLink RX8 146 yX8_takeList, Cond.instanceMethod yX8_takeList, Cond.selects RX8 yX8_takeList yX8_takeList]
def wsX8_look_r3 : List Cond := [Cond.code yX8_takeList cX8_takeList 3 none, Cond.fieldLink RX8 23 "CycleHouseModel" "list" "[J", Cond.methodLink RX8 136 yX8_take, Cond.instanceMethod yX8_take, Cond.selects RX8 yX8_take yX8_take, Cond.code yX8_take cX8_take 6 (some .boolean), Cond.fieldLink RX8 45 "CycleHouseModel" "rows" "[J", Cond.methodLink RX8 133 yX8_rest, Cond.instanceMethod yX8_rest, Cond.selects RX8 yX8_rest yX8_rest, Cond.code yX8_rest cX8_rest 6 (some .long), Cond.methodLink RX8 159 yX8_parting, Cond.instanceMethod yX8_parting, Cond.selects RX8 yX8_parting yX8_parting, Cond.code yX8_parting cX8_parting 6 (some .int)]
def wsX8_look : List Cond := .code yX8_look cX8_look 2 (some .int) :: ((wsX8_look_r1 ++ (wsX8_look_r2 ++ wsX8_look_r3)) ++ wsX80)
theorem dX0_init_0 : decode cX0_init 0 = .ok (.aload_n 0, 1) := by decide +kernel
theorem dX0_init_1 : decode cX0_init 1 = .ok (.invokespecial 3, 3) := by decide +kernel
theorem dX0_init_4 : decode cX0_init 4 = .ok (.aload_n 0, 1) := by decide +kernel
theorem dX0_init_5 : decode cX0_init 5 = .ok (.bipush 16, 2) := by decide +kernel
theorem dX0_init_7 : decode cX0_init 7 = .ok (.bipush 16, 2) := by decide +kernel
theorem dX0_init_9 : decode cX0_init 9 = .ok (.multianewarray 9 2, 4) := by decide +kernel
theorem dX0_init_13 : decode cX0_init 13 = .ok (.putfield 11, 3) := by decide +kernel
theorem dX0_init_16 : decode cX0_init 16 = .ok (.return_, 1) := by decide +kernel
set_option maxRecDepth 20000 in
theorem ggX0_count_J7_fill_53178 : GoodIn wsX0_count wsJ7_fill_53178 := goodIn_r _ [5] (by decide +kernel) (by decide +kernel)
set_option maxRecDepth 20000 in
theorem gX0_count_J7_fill_53178 : GoodIn wsX0_count (va_wsS RX0 16 yJ7_fill_53178 wsJ7_fill_53178) := goodIn_app (goodIn_of _ (by decide +kernel)) ggX0_count_J7_fill_53178
set_option maxRecDepth 20000 in
theorem ggX0_count_X0_paths : GoodIn wsX0_count wsX0_paths := goodIn_r _ [9, 6, 7, 8] (by decide +kernel) (by decide +kernel)
set_option maxRecDepth 20000 in
theorem gX0_count_X0_paths : GoodIn wsX0_count (va_wsS RX0 35 yX0_paths wsX0_paths) := goodIn_app (goodIn_of _ (by decide +kernel)) ggX0_count_X0_paths
theorem dX0_count_0 : decode cX0_count 0 = .ok (.iconst 0, 1) := by decide +kernel
theorem dX0_count_1 : decode cX0_count 1 = .ok (.istore_n 2, 1) := by decide +kernel
theorem dX0_count_2 : decode cX0_count 2 = .ok (.iload_n 2, 1) := by decide +kernel
theorem dX0_count_3 : decode cX0_count 3 = .ok (.bipush 16, 2) := by decide +kernel
theorem dX0_count_5 : decode cX0_count 5 = .ok (.if_icmp .ge 19, 3) := by decide +kernel
theorem dX0_count_8 : decode cX0_count 8 = .ok (.aload_n 0, 1) := by decide +kernel
theorem dX0_count_9 : decode cX0_count 9 = .ok (.getfield 11, 3) := by decide +kernel
theorem dX0_count_12 : decode cX0_count 12 = .ok (.iload_n 2, 1) := by decide +kernel
theorem dX0_count_13 : decode cX0_count 13 = .ok (.aaload, 1) := by decide +kernel
theorem dX0_count_14 : decode cX0_count 14 = .ok (.iconst 0, 1) := by decide +kernel
theorem dX0_count_15 : decode cX0_count 15 = .ok (.invokestatic 16, 3) := by decide +kernel
theorem dX0_count_18 : decode cX0_count 18 = .ok (.iinc 2 1, 3) := by decide +kernel
theorem dX0_count_21 : decode cX0_count 21 = .ok (.goto (-19), 3) := by decide +kernel
theorem dX0_count_24 : decode cX0_count 24 = .ok (.iconst 0, 1) := by decide +kernel
theorem dX0_count_25 : decode cX0_count 25 = .ok (.istore_n 2, 1) := by decide +kernel
theorem dX0_count_26 : decode cX0_count 26 = .ok (.iconst 0, 1) := by decide +kernel
theorem dX0_count_27 : decode cX0_count 27 = .ok (.istore_n 3, 1) := by decide +kernel
theorem dX0_count_28 : decode cX0_count 28 = .ok (.iload_n 3, 1) := by decide +kernel
theorem dX0_count_29 : decode cX0_count 29 = .ok (.aload_n 1, 1) := by decide +kernel
theorem dX0_count_30 : decode cX0_count 30 = .ok (.getfield 22, 3) := by decide +kernel
theorem dX0_count_33 : decode cX0_count 33 = .ok (.if_icmp .ge 79, 3) := by decide +kernel
theorem dX0_count_36 : decode cX0_count 36 = .ok (.aload_n 1, 1) := by decide +kernel
theorem dX0_count_37 : decode cX0_count 37 = .ok (.getfield 28, 3) := by decide +kernel
theorem dX0_count_40 : decode cX0_count 40 = .ok (.iload_n 3, 1) := by decide +kernel
theorem dX0_count_41 : decode cX0_count 41 = .ok (.iaload, 1) := by decide +kernel
theorem dX0_count_42 : decode cX0_count 42 = .ok (.istore 4, 2) := by decide +kernel
theorem dX0_count_44 : decode cX0_count 44 = .ok (.aload_n 1, 1) := by decide +kernel
theorem dX0_count_45 : decode cX0_count 45 = .ok (.getfield 32, 3) := by decide +kernel
theorem dX0_count_48 : decode cX0_count 48 = .ok (.iload_n 3, 1) := by decide +kernel
theorem dX0_count_49 : decode cX0_count 49 = .ok (.iaload, 1) := by decide +kernel
theorem dX0_count_50 : decode cX0_count 50 = .ok (.istore 5, 2) := by decide +kernel
theorem dX0_count_52 : decode cX0_count 52 = .ok (.iload_n 2, 1) := by decide +kernel
theorem dX0_count_53 : decode cX0_count 53 = .ok (.aload_n 0, 1) := by decide +kernel
theorem dX0_count_54 : decode cX0_count 54 = .ok (.getfield 11, 3) := by decide +kernel
theorem dX0_count_57 : decode cX0_count 57 = .ok (.iload 4, 2) := by decide +kernel
theorem dX0_count_59 : decode cX0_count 59 = .ok (.iload 5, 2) := by decide +kernel
theorem dX0_count_61 : decode cX0_count 61 = .ok (.iconst 1, 1) := by decide +kernel
theorem dX0_count_62 : decode cX0_count 62 = .ok (.iload 4, 2) := by decide +kernel
theorem dX0_count_64 : decode cX0_count 64 = .ok (.ishl, 1) := by decide +kernel
theorem dX0_count_65 : decode cX0_count 65 = .ok (.iconst 1, 1) := by decide +kernel
theorem dX0_count_66 : decode cX0_count 66 = .ok (.invokestatic 35, 3) := by decide +kernel
theorem dX0_count_69 : decode cX0_count 69 = .ok (.iadd, 1) := by decide +kernel
theorem dX0_count_70 : decode cX0_count 70 = .ok (.istore_n 2, 1) := by decide +kernel
theorem dX0_count_71 : decode cX0_count 71 = .ok (.aload_n 0, 1) := by decide +kernel
theorem dX0_count_72 : decode cX0_count 72 = .ok (.getfield 11, 3) := by decide +kernel
theorem dX0_count_75 : decode cX0_count 75 = .ok (.iload 4, 2) := by decide +kernel
theorem dX0_count_77 : decode cX0_count 77 = .ok (.aaload, 1) := by decide +kernel
theorem dX0_count_78 : decode cX0_count 78 = .ok (.iload 5, 2) := by decide +kernel
theorem dX0_count_80 : decode cX0_count 80 = .ok (.dup2, 1) := by decide +kernel
theorem dX0_count_81 : decode cX0_count 81 = .ok (.iaload, 1) := by decide +kernel
theorem dX0_count_82 : decode cX0_count 82 = .ok (.iconst 1, 1) := by decide +kernel
theorem dX0_count_83 : decode cX0_count 83 = .ok (.iadd, 1) := by decide +kernel
theorem dX0_count_84 : decode cX0_count 84 = .ok (.iastore, 1) := by decide +kernel
theorem dX0_count_85 : decode cX0_count 85 = .ok (.iload 4, 2) := by decide +kernel
theorem dX0_count_87 : decode cX0_count 87 = .ok (.iload 5, 2) := by decide +kernel
theorem dX0_count_89 : decode cX0_count 89 = .ok (.if_icmp .eq 17, 3) := by decide +kernel
theorem dX0_count_92 : decode cX0_count 92 = .ok (.aload_n 0, 1) := by decide +kernel
theorem dX0_count_93 : decode cX0_count 93 = .ok (.getfield 11, 3) := by decide +kernel
theorem dX0_count_96 : decode cX0_count 96 = .ok (.iload 5, 2) := by decide +kernel
theorem dX0_count_98 : decode cX0_count 98 = .ok (.aaload, 1) := by decide +kernel
theorem dX0_count_99 : decode cX0_count 99 = .ok (.iload 4, 2) := by decide +kernel
theorem dX0_count_101 : decode cX0_count 101 = .ok (.dup2, 1) := by decide +kernel
theorem dX0_count_102 : decode cX0_count 102 = .ok (.iaload, 1) := by decide +kernel
theorem dX0_count_103 : decode cX0_count 103 = .ok (.iconst 1, 1) := by decide +kernel
theorem dX0_count_104 : decode cX0_count 104 = .ok (.iadd, 1) := by decide +kernel
theorem dX0_count_105 : decode cX0_count 105 = .ok (.iastore, 1) := by decide +kernel
theorem dX0_count_106 : decode cX0_count 106 = .ok (.iinc 3 1, 3) := by decide +kernel
theorem dX0_count_109 : decode cX0_count 109 = .ok (.goto (-81), 3) := by decide +kernel
theorem dX0_count_112 : decode cX0_count 112 = .ok (.iload_n 2, 1) := by decide +kernel
theorem dX0_count_113 : decode cX0_count 113 = .ok (.ireturn, 1) := by decide +kernel
set_option maxRecDepth 20000 in
theorem ggX0_paths_X0_paths : GoodIn wsX0_paths wsX0_paths := goodIn_r _ [0, 1, 2, 3] (by decide +kernel) (by decide +kernel)
set_option maxRecDepth 20000 in
theorem gX0_paths_X0_paths : GoodIn wsX0_paths (va_wsS RX0 35 yX0_paths wsX0_paths) := goodIn_app (goodIn_of _ (by decide +kernel)) ggX0_paths_X0_paths
theorem dX0_paths_0 : decode cX0_paths 0 = .ok (.iload_n 1, 1) := by decide +kernel
theorem dX0_paths_1 : decode cX0_paths 1 = .ok (.iload_n 2, 1) := by decide +kernel
theorem dX0_paths_2 : decode cX0_paths 2 = .ok (.if_icmp .ne 5, 3) := by decide +kernel
theorem dX0_paths_5 : decode cX0_paths 5 = .ok (.iconst 1, 1) := by decide +kernel
theorem dX0_paths_6 : decode cX0_paths 6 = .ok (.ireturn, 1) := by decide +kernel
theorem dX0_paths_7 : decode cX0_paths 7 = .ok (.iload 4, 2) := by decide +kernel
theorem dX0_paths_9 : decode cX0_paths 9 = .ok (.bipush 16, 2) := by decide +kernel
theorem dX0_paths_11 : decode cX0_paths 11 = .ok (.if_icmp .lt 5, 3) := by decide +kernel
theorem dX0_paths_14 : decode cX0_paths 14 = .ok (.iconst 0, 1) := by decide +kernel
theorem dX0_paths_15 : decode cX0_paths 15 = .ok (.ireturn, 1) := by decide +kernel
theorem dX0_paths_16 : decode cX0_paths 16 = .ok (.iconst 0, 1) := by decide +kernel
theorem dX0_paths_17 : decode cX0_paths 17 = .ok (.istore 5, 2) := by decide +kernel
theorem dX0_paths_19 : decode cX0_paths 19 = .ok (.iconst 0, 1) := by decide +kernel
theorem dX0_paths_20 : decode cX0_paths 20 = .ok (.istore 6, 2) := by decide +kernel
theorem dX0_paths_22 : decode cX0_paths 22 = .ok (.iload 6, 2) := by decide +kernel
theorem dX0_paths_24 : decode cX0_paths 24 = .ok (.bipush 16, 2) := by decide +kernel
theorem dX0_paths_26 : decode cX0_paths 26 = .ok (.if_icmp .ge 56, 3) := by decide +kernel
theorem dX0_paths_29 : decode cX0_paths 29 = .ok (.aload_n 0, 1) := by decide +kernel
theorem dX0_paths_30 : decode cX0_paths 30 = .ok (.iload_n 1, 1) := by decide +kernel
theorem dX0_paths_31 : decode cX0_paths 31 = .ok (.aaload, 1) := by decide +kernel
theorem dX0_paths_32 : decode cX0_paths 32 = .ok (.iload 6, 2) := by decide +kernel
theorem dX0_paths_34 : decode cX0_paths 34 = .ok (.iaload, 1) := by decide +kernel
theorem dX0_paths_35 : decode cX0_paths 35 = .ok (.ifCond .eq 41, 3) := by decide +kernel
theorem dX0_paths_38 : decode cX0_paths 38 = .ok (.iload_n 3, 1) := by decide +kernel
theorem dX0_paths_39 : decode cX0_paths 39 = .ok (.iload 6, 2) := by decide +kernel
theorem dX0_paths_41 : decode cX0_paths 41 = .ok (.ishr, 1) := by decide +kernel
theorem dX0_paths_42 : decode cX0_paths 42 = .ok (.iconst 1, 1) := by decide +kernel
theorem dX0_paths_43 : decode cX0_paths 43 = .ok (.iand, 1) := by decide +kernel
theorem dX0_paths_44 : decode cX0_paths 44 = .ok (.ifCond .ne 32, 3) := by decide +kernel
theorem dX0_paths_47 : decode cX0_paths 47 = .ok (.iload 5, 2) := by decide +kernel
theorem dX0_paths_49 : decode cX0_paths 49 = .ok (.aload_n 0, 1) := by decide +kernel
theorem dX0_paths_50 : decode cX0_paths 50 = .ok (.iload_n 1, 1) := by decide +kernel
theorem dX0_paths_51 : decode cX0_paths 51 = .ok (.aaload, 1) := by decide +kernel
theorem dX0_paths_52 : decode cX0_paths 52 = .ok (.iload 6, 2) := by decide +kernel
theorem dX0_paths_54 : decode cX0_paths 54 = .ok (.iaload, 1) := by decide +kernel
theorem dX0_paths_55 : decode cX0_paths 55 = .ok (.aload_n 0, 1) := by decide +kernel
theorem dX0_paths_56 : decode cX0_paths 56 = .ok (.iload 6, 2) := by decide +kernel
theorem dX0_paths_58 : decode cX0_paths 58 = .ok (.iload_n 2, 1) := by decide +kernel
theorem dX0_paths_59 : decode cX0_paths 59 = .ok (.iload_n 3, 1) := by decide +kernel
theorem dX0_paths_60 : decode cX0_paths 60 = .ok (.iconst 1, 1) := by decide +kernel
theorem dX0_paths_61 : decode cX0_paths 61 = .ok (.iload 6, 2) := by decide +kernel
theorem dX0_paths_63 : decode cX0_paths 63 = .ok (.ishl, 1) := by decide +kernel
theorem dX0_paths_64 : decode cX0_paths 64 = .ok (.ior, 1) := by decide +kernel
theorem dX0_paths_65 : decode cX0_paths 65 = .ok (.iload 4, 2) := by decide +kernel
theorem dX0_paths_67 : decode cX0_paths 67 = .ok (.iconst 1, 1) := by decide +kernel
theorem dX0_paths_68 : decode cX0_paths 68 = .ok (.iadd, 1) := by decide +kernel
theorem dX0_paths_69 : decode cX0_paths 69 = .ok (.invokestatic 35, 3) := by decide +kernel
theorem dX0_paths_72 : decode cX0_paths 72 = .ok (.imul, 1) := by decide +kernel
theorem dX0_paths_73 : decode cX0_paths 73 = .ok (.iadd, 1) := by decide +kernel
theorem dX0_paths_74 : decode cX0_paths 74 = .ok (.istore 5, 2) := by decide +kernel
theorem dX0_paths_76 : decode cX0_paths 76 = .ok (.iinc 6 1, 3) := by decide +kernel
theorem dX0_paths_79 : decode cX0_paths 79 = .ok (.goto (-57), 3) := by decide +kernel
theorem dX0_paths_82 : decode cX0_paths 82 = .ok (.iload 5, 2) := by decide +kernel
theorem dX0_paths_84 : decode cX0_paths 84 = .ok (.ireturn, 1) := by decide +kernel
theorem dX1_init_0 : decode cX1_init 0 = .ok (.aload_n 0, 1) := by decide +kernel
theorem dX1_init_1 : decode cX1_init 1 = .ok (.invokespecial 3, 3) := by decide +kernel
theorem dX1_init_4 : decode cX1_init 4 = .ok (.aload_n 0, 1) := by decide +kernel
theorem dX1_init_5 : decode cX1_init 5 = .ok (.bipush 16, 2) := by decide +kernel
theorem dX1_init_7 : decode cX1_init 7 = .ok (.bipush 16, 2) := by decide +kernel
theorem dX1_init_9 : decode cX1_init 9 = .ok (.multianewarray 9 2, 4) := by decide +kernel
theorem dX1_init_13 : decode cX1_init 13 = .ok (.putfield 11, 3) := by decide +kernel
theorem dX1_init_16 : decode cX1_init 16 = .ok (.return_, 1) := by decide +kernel
set_option maxRecDepth 20000 in
theorem ggX1_count_J7_fill_d0a16 : GoodIn wsX1_count wsJ7_fill_d0a16 := goodIn_r _ [5] (by decide +kernel) (by decide +kernel)
set_option maxRecDepth 20000 in
theorem gX1_count_J7_fill_d0a16 : GoodIn wsX1_count (va_wsS RX1 22 yJ7_fill_d0a16 wsJ7_fill_d0a16) := goodIn_app (goodIn_of _ (by decide +kernel)) ggX1_count_J7_fill_d0a16
set_option maxRecDepth 20000 in
theorem ggX1_count_X1_determinant : GoodIn wsX1_count wsX1_determinant := goodIn_r _ [10, 1, 11, 12, 13, 9, 14, 20] (by decide +kernel) (by decide +kernel)
set_option maxRecDepth 20000 in
theorem gX1_count_X1_determinant : GoodIn wsX1_count (wsV RX1 43 RX1 yX1_determinant wsX1_determinant) := goodIn_app (goodIn_of _ (by decide +kernel)) ggX1_count_X1_determinant
theorem dX1_count_0 : decode cX1_count 0 = .ok (.iconst 0, 1) := by decide +kernel
theorem dX1_count_1 : decode cX1_count 1 = .ok (.istore_n 3, 1) := by decide +kernel
theorem dX1_count_2 : decode cX1_count 2 = .ok (.iload_n 3, 1) := by decide +kernel
theorem dX1_count_3 : decode cX1_count 3 = .ok (.aload_n 1, 1) := by decide +kernel
theorem dX1_count_4 : decode cX1_count 4 = .ok (.getfield 16, 3) := by decide +kernel
theorem dX1_count_7 : decode cX1_count 7 = .ok (.if_icmp .ge 19, 3) := by decide +kernel
theorem dX1_count_10 : decode cX1_count 10 = .ok (.aload_n 0, 1) := by decide +kernel
theorem dX1_count_11 : decode cX1_count 11 = .ok (.getfield 11, 3) := by decide +kernel
theorem dX1_count_14 : decode cX1_count 14 = .ok (.iload_n 3, 1) := by decide +kernel
theorem dX1_count_15 : decode cX1_count 15 = .ok (.aaload, 1) := by decide +kernel
theorem dX1_count_16 : decode cX1_count 16 = .ok (.lconst 0, 1) := by decide +kernel
theorem dX1_count_17 : decode cX1_count 17 = .ok (.invokestatic 22, 3) := by decide +kernel
theorem dX1_count_20 : decode cX1_count 20 = .ok (.iinc 3 1, 3) := by decide +kernel
theorem dX1_count_23 : decode cX1_count 23 = .ok (.goto (-21), 3) := by decide +kernel
theorem dX1_count_26 : decode cX1_count 26 = .ok (.iconst 0, 1) := by decide +kernel
theorem dX1_count_27 : decode cX1_count 27 = .ok (.istore_n 3, 1) := by decide +kernel
theorem dX1_count_28 : decode cX1_count 28 = .ok (.iload_n 3, 1) := by decide +kernel
theorem dX1_count_29 : decode cX1_count 29 = .ok (.aload_n 1, 1) := by decide +kernel
theorem dX1_count_30 : decode cX1_count 30 = .ok (.getfield 28, 3) := by decide +kernel
theorem dX1_count_33 : decode cX1_count 33 = .ok (.if_icmp .ge 98, 3) := by decide +kernel
theorem dX1_count_36 : decode cX1_count 36 = .ok (.aload_n 2, 1) := by decide +kernel
theorem dX1_count_37 : decode cX1_count 37 = .ok (.getfield 31, 3) := by decide +kernel
theorem dX1_count_40 : decode cX1_count 40 = .ok (.aload_n 1, 1) := by decide +kernel
theorem dX1_count_41 : decode cX1_count 41 = .ok (.getfield 37, 3) := by decide +kernel
theorem dX1_count_44 : decode cX1_count 44 = .ok (.iload_n 3, 1) := by decide +kernel
theorem dX1_count_45 : decode cX1_count 45 = .ok (.iaload, 1) := by decide +kernel
theorem dX1_count_46 : decode cX1_count 46 = .ok (.iaload, 1) := by decide +kernel
theorem dX1_count_47 : decode cX1_count 47 = .ok (.istore 4, 2) := by decide +kernel
theorem dX1_count_49 : decode cX1_count 49 = .ok (.aload_n 2, 1) := by decide +kernel
theorem dX1_count_50 : decode cX1_count 50 = .ok (.getfield 31, 3) := by decide +kernel
theorem dX1_count_53 : decode cX1_count 53 = .ok (.aload_n 1, 1) := by decide +kernel
theorem dX1_count_54 : decode cX1_count 54 = .ok (.getfield 40, 3) := by decide +kernel
theorem dX1_count_57 : decode cX1_count 57 = .ok (.iload_n 3, 1) := by decide +kernel
theorem dX1_count_58 : decode cX1_count 58 = .ok (.iaload, 1) := by decide +kernel
theorem dX1_count_59 : decode cX1_count 59 = .ok (.iaload, 1) := by decide +kernel
theorem dX1_count_60 : decode cX1_count 60 = .ok (.istore 5, 2) := by decide +kernel
theorem dX1_count_62 : decode cX1_count 62 = .ok (.iload 4, 2) := by decide +kernel
theorem dX1_count_64 : decode cX1_count 64 = .ok (.iload 5, 2) := by decide +kernel
theorem dX1_count_66 : decode cX1_count 66 = .ok (.if_icmp .eq 59, 3) := by decide +kernel
theorem dX1_count_69 : decode cX1_count 69 = .ok (.aload_n 0, 1) := by decide +kernel
theorem dX1_count_70 : decode cX1_count 70 = .ok (.getfield 11, 3) := by decide +kernel
theorem dX1_count_73 : decode cX1_count 73 = .ok (.iload 4, 2) := by decide +kernel
theorem dX1_count_75 : decode cX1_count 75 = .ok (.aaload, 1) := by decide +kernel
theorem dX1_count_76 : decode cX1_count 76 = .ok (.iload 4, 2) := by decide +kernel
theorem dX1_count_78 : decode cX1_count 78 = .ok (.dup2, 1) := by decide +kernel
theorem dX1_count_79 : decode cX1_count 79 = .ok (.laload, 1) := by decide +kernel
theorem dX1_count_80 : decode cX1_count 80 = .ok (.lconst 1, 1) := by decide +kernel
theorem dX1_count_81 : decode cX1_count 81 = .ok (.ladd, 1) := by decide +kernel
theorem dX1_count_82 : decode cX1_count 82 = .ok (.lastore, 1) := by decide +kernel
theorem dX1_count_83 : decode cX1_count 83 = .ok (.aload_n 0, 1) := by decide +kernel
theorem dX1_count_84 : decode cX1_count 84 = .ok (.getfield 11, 3) := by decide +kernel
theorem dX1_count_87 : decode cX1_count 87 = .ok (.iload 5, 2) := by decide +kernel
theorem dX1_count_89 : decode cX1_count 89 = .ok (.aaload, 1) := by decide +kernel
theorem dX1_count_90 : decode cX1_count 90 = .ok (.iload 5, 2) := by decide +kernel
theorem dX1_count_92 : decode cX1_count 92 = .ok (.dup2, 1) := by decide +kernel
theorem dX1_count_93 : decode cX1_count 93 = .ok (.laload, 1) := by decide +kernel
theorem dX1_count_94 : decode cX1_count 94 = .ok (.lconst 1, 1) := by decide +kernel
theorem dX1_count_95 : decode cX1_count 95 = .ok (.ladd, 1) := by decide +kernel
theorem dX1_count_96 : decode cX1_count 96 = .ok (.lastore, 1) := by decide +kernel
theorem dX1_count_97 : decode cX1_count 97 = .ok (.aload_n 0, 1) := by decide +kernel
theorem dX1_count_98 : decode cX1_count 98 = .ok (.getfield 11, 3) := by decide +kernel
theorem dX1_count_101 : decode cX1_count 101 = .ok (.iload 4, 2) := by decide +kernel
theorem dX1_count_103 : decode cX1_count 103 = .ok (.aaload, 1) := by decide +kernel
theorem dX1_count_104 : decode cX1_count 104 = .ok (.iload 5, 2) := by decide +kernel
theorem dX1_count_106 : decode cX1_count 106 = .ok (.dup2, 1) := by decide +kernel
theorem dX1_count_107 : decode cX1_count 107 = .ok (.laload, 1) := by decide +kernel
theorem dX1_count_108 : decode cX1_count 108 = .ok (.lconst 1, 1) := by decide +kernel
theorem dX1_count_109 : decode cX1_count 109 = .ok (.lsub, 1) := by decide +kernel
theorem dX1_count_110 : decode cX1_count 110 = .ok (.lastore, 1) := by decide +kernel
theorem dX1_count_111 : decode cX1_count 111 = .ok (.aload_n 0, 1) := by decide +kernel
theorem dX1_count_112 : decode cX1_count 112 = .ok (.getfield 11, 3) := by decide +kernel
theorem dX1_count_115 : decode cX1_count 115 = .ok (.iload 5, 2) := by decide +kernel
theorem dX1_count_117 : decode cX1_count 117 = .ok (.aaload, 1) := by decide +kernel
theorem dX1_count_118 : decode cX1_count 118 = .ok (.iload 4, 2) := by decide +kernel
theorem dX1_count_120 : decode cX1_count 120 = .ok (.dup2, 1) := by decide +kernel
theorem dX1_count_121 : decode cX1_count 121 = .ok (.laload, 1) := by decide +kernel
theorem dX1_count_122 : decode cX1_count 122 = .ok (.lconst 1, 1) := by decide +kernel
theorem dX1_count_123 : decode cX1_count 123 = .ok (.lsub, 1) := by decide +kernel
theorem dX1_count_124 : decode cX1_count 124 = .ok (.lastore, 1) := by decide +kernel
theorem dX1_count_125 : decode cX1_count 125 = .ok (.iinc 3 1, 3) := by decide +kernel
theorem dX1_count_128 : decode cX1_count 128 = .ok (.goto (-100), 3) := by decide +kernel
theorem dX1_count_131 : decode cX1_count 131 = .ok (.aload_n 0, 1) := by decide +kernel
theorem dX1_count_132 : decode cX1_count 132 = .ok (.aload_n 1, 1) := by decide +kernel
theorem dX1_count_133 : decode cX1_count 133 = .ok (.getfield 16, 3) := by decide +kernel
theorem dX1_count_136 : decode cX1_count 136 = .ok (.invokevirtual 43, 3) := by decide +kernel
theorem dX1_count_139 : decode cX1_count 139 = .ok (.lreturn, 1) := by decide +kernel
set_option maxRecDepth 20000 in
theorem ggX1_determinant_X1_eliminate : GoodIn wsX1_determinant wsX1_eliminate := goodIn_r _ [6, 1, 7] (by decide +kernel) (by decide +kernel)
set_option maxRecDepth 20000 in
theorem gX1_determinant_X1_eliminate : GoodIn wsX1_determinant (wsV RX1 47 RX1 yX1_eliminate wsX1_eliminate) := goodIn_app (goodIn_of _ (by decide +kernel)) ggX1_determinant_X1_eliminate
theorem dX1_determinant_0 : decode cX1_determinant 0 = .ok (.lconst 1, 1) := by decide +kernel
theorem dX1_determinant_1 : decode cX1_determinant 1 = .ok (.lstore_n 2, 1) := by decide +kernel
theorem dX1_determinant_2 : decode cX1_determinant 2 = .ok (.iconst 0, 1) := by decide +kernel
theorem dX1_determinant_3 : decode cX1_determinant 3 = .ok (.istore 4, 2) := by decide +kernel
theorem dX1_determinant_5 : decode cX1_determinant 5 = .ok (.iload 4, 2) := by decide +kernel
theorem dX1_determinant_7 : decode cX1_determinant 7 = .ok (.iload_n 1, 1) := by decide +kernel
theorem dX1_determinant_8 : decode cX1_determinant 8 = .ok (.if_icmp .ge 39, 3) := by decide +kernel
theorem dX1_determinant_11 : decode cX1_determinant 11 = .ok (.aload_n 0, 1) := by decide +kernel
theorem dX1_determinant_12 : decode cX1_determinant 12 = .ok (.getfield 11, 3) := by decide +kernel
theorem dX1_determinant_15 : decode cX1_determinant 15 = .ok (.iload 4, 2) := by decide +kernel
theorem dX1_determinant_17 : decode cX1_determinant 17 = .ok (.aaload, 1) := by decide +kernel
theorem dX1_determinant_18 : decode cX1_determinant 18 = .ok (.iload 4, 2) := by decide +kernel
theorem dX1_determinant_20 : decode cX1_determinant 20 = .ok (.laload, 1) := by decide +kernel
theorem dX1_determinant_21 : decode cX1_determinant 21 = .ok (.lstore 5, 2) := by decide +kernel
theorem dX1_determinant_23 : decode cX1_determinant 23 = .ok (.lload 5, 2) := by decide +kernel
theorem dX1_determinant_25 : decode cX1_determinant 25 = .ok (.lconst 0, 1) := by decide +kernel
theorem dX1_determinant_26 : decode cX1_determinant 26 = .ok (.lcmp, 1) := by decide +kernel
theorem dX1_determinant_27 : decode cX1_determinant 27 = .ok (.ifCond .eq 14, 3) := by decide +kernel
theorem dX1_determinant_30 : decode cX1_determinant 30 = .ok (.aload_n 0, 1) := by decide +kernel
theorem dX1_determinant_31 : decode cX1_determinant 31 = .ok (.iload 4, 2) := by decide +kernel
theorem dX1_determinant_33 : decode cX1_determinant 33 = .ok (.iload_n 1, 1) := by decide +kernel
theorem dX1_determinant_34 : decode cX1_determinant 34 = .ok (.lload_n 2, 1) := by decide +kernel
theorem dX1_determinant_35 : decode cX1_determinant 35 = .ok (.invokevirtual 47, 3) := by decide +kernel
theorem dX1_determinant_38 : decode cX1_determinant 38 = .ok (.lload 5, 2) := by decide +kernel
theorem dX1_determinant_40 : decode cX1_determinant 40 = .ok (.lstore_n 2, 1) := by decide +kernel
theorem dX1_determinant_41 : decode cX1_determinant 41 = .ok (.iinc 4 1, 3) := by decide +kernel
theorem dX1_determinant_44 : decode cX1_determinant 44 = .ok (.goto (-39), 3) := by decide +kernel
theorem dX1_determinant_47 : decode cX1_determinant 47 = .ok (.lload_n 2, 1) := by decide +kernel
theorem dX1_determinant_48 : decode cX1_determinant 48 = .ok (.lreturn, 1) := by decide +kernel
theorem dX1_eliminate_0 : decode cX1_eliminate 0 = .ok (.lload_n 3, 1) := by decide +kernel
theorem dX1_eliminate_1 : decode cX1_eliminate 1 = .ok (.lconst 0, 1) := by decide +kernel
theorem dX1_eliminate_2 : decode cX1_eliminate 2 = .ok (.lcmp, 1) := by decide +kernel
theorem dX1_eliminate_3 : decode cX1_eliminate 3 = .ok (.ifCond .ne 4, 3) := by decide +kernel
theorem dX1_eliminate_6 : decode cX1_eliminate 6 = .ok (.return_, 1) := by decide +kernel
theorem dX1_eliminate_7 : decode cX1_eliminate 7 = .ok (.iload_n 1, 1) := by decide +kernel
theorem dX1_eliminate_8 : decode cX1_eliminate 8 = .ok (.iconst 1, 1) := by decide +kernel
theorem dX1_eliminate_9 : decode cX1_eliminate 9 = .ok (.iadd, 1) := by decide +kernel
theorem dX1_eliminate_10 : decode cX1_eliminate 10 = .ok (.istore 5, 2) := by decide +kernel
theorem dX1_eliminate_12 : decode cX1_eliminate 12 = .ok (.iload 5, 2) := by decide +kernel
theorem dX1_eliminate_14 : decode cX1_eliminate 14 = .ok (.iload_n 2, 1) := by decide +kernel
theorem dX1_eliminate_15 : decode cX1_eliminate 15 = .ok (.if_icmp .ge 77, 3) := by decide +kernel
theorem dX1_eliminate_18 : decode cX1_eliminate 18 = .ok (.iload_n 1, 1) := by decide +kernel
theorem dX1_eliminate_19 : decode cX1_eliminate 19 = .ok (.iconst 1, 1) := by decide +kernel
theorem dX1_eliminate_20 : decode cX1_eliminate 20 = .ok (.iadd, 1) := by decide +kernel
theorem dX1_eliminate_21 : decode cX1_eliminate 21 = .ok (.istore 6, 2) := by decide +kernel
theorem dX1_eliminate_23 : decode cX1_eliminate 23 = .ok (.iload 6, 2) := by decide +kernel
theorem dX1_eliminate_25 : decode cX1_eliminate 25 = .ok (.iload_n 2, 1) := by decide +kernel
theorem dX1_eliminate_26 : decode cX1_eliminate 26 = .ok (.if_icmp .ge 60, 3) := by decide +kernel
theorem dX1_eliminate_29 : decode cX1_eliminate 29 = .ok (.aload_n 0, 1) := by decide +kernel
theorem dX1_eliminate_30 : decode cX1_eliminate 30 = .ok (.getfield 11, 3) := by decide +kernel
theorem dX1_eliminate_33 : decode cX1_eliminate 33 = .ok (.iload 5, 2) := by decide +kernel
theorem dX1_eliminate_35 : decode cX1_eliminate 35 = .ok (.aaload, 1) := by decide +kernel
theorem dX1_eliminate_36 : decode cX1_eliminate 36 = .ok (.iload 6, 2) := by decide +kernel
theorem dX1_eliminate_38 : decode cX1_eliminate 38 = .ok (.aload_n 0, 1) := by decide +kernel
theorem dX1_eliminate_39 : decode cX1_eliminate 39 = .ok (.getfield 11, 3) := by decide +kernel
theorem dX1_eliminate_42 : decode cX1_eliminate 42 = .ok (.iload 5, 2) := by decide +kernel
theorem dX1_eliminate_44 : decode cX1_eliminate 44 = .ok (.aaload, 1) := by decide +kernel
theorem dX1_eliminate_45 : decode cX1_eliminate 45 = .ok (.iload 6, 2) := by decide +kernel
theorem dX1_eliminate_47 : decode cX1_eliminate 47 = .ok (.laload, 1) := by decide +kernel
theorem dX1_eliminate_48 : decode cX1_eliminate 48 = .ok (.aload_n 0, 1) := by decide +kernel
theorem dX1_eliminate_49 : decode cX1_eliminate 49 = .ok (.getfield 11, 3) := by decide +kernel
theorem dX1_eliminate_52 : decode cX1_eliminate 52 = .ok (.iload_n 1, 1) := by decide +kernel
theorem dX1_eliminate_53 : decode cX1_eliminate 53 = .ok (.aaload, 1) := by decide +kernel
theorem dX1_eliminate_54 : decode cX1_eliminate 54 = .ok (.iload_n 1, 1) := by decide +kernel
theorem dX1_eliminate_55 : decode cX1_eliminate 55 = .ok (.laload, 1) := by decide +kernel
theorem dX1_eliminate_56 : decode cX1_eliminate 56 = .ok (.lmul, 1) := by decide +kernel
theorem dX1_eliminate_57 : decode cX1_eliminate 57 = .ok (.aload_n 0, 1) := by decide +kernel
theorem dX1_eliminate_58 : decode cX1_eliminate 58 = .ok (.getfield 11, 3) := by decide +kernel
theorem dX1_eliminate_61 : decode cX1_eliminate 61 = .ok (.iload 5, 2) := by decide +kernel
theorem dX1_eliminate_63 : decode cX1_eliminate 63 = .ok (.aaload, 1) := by decide +kernel
theorem dX1_eliminate_64 : decode cX1_eliminate 64 = .ok (.iload_n 1, 1) := by decide +kernel
theorem dX1_eliminate_65 : decode cX1_eliminate 65 = .ok (.laload, 1) := by decide +kernel
theorem dX1_eliminate_66 : decode cX1_eliminate 66 = .ok (.aload_n 0, 1) := by decide +kernel
theorem dX1_eliminate_67 : decode cX1_eliminate 67 = .ok (.getfield 11, 3) := by decide +kernel
theorem dX1_eliminate_70 : decode cX1_eliminate 70 = .ok (.iload_n 1, 1) := by decide +kernel
theorem dX1_eliminate_71 : decode cX1_eliminate 71 = .ok (.aaload, 1) := by decide +kernel
theorem dX1_eliminate_72 : decode cX1_eliminate 72 = .ok (.iload 6, 2) := by decide +kernel
theorem dX1_eliminate_74 : decode cX1_eliminate 74 = .ok (.laload, 1) := by decide +kernel
theorem dX1_eliminate_75 : decode cX1_eliminate 75 = .ok (.lmul, 1) := by decide +kernel
theorem dX1_eliminate_76 : decode cX1_eliminate 76 = .ok (.lsub, 1) := by decide +kernel
theorem dX1_eliminate_77 : decode cX1_eliminate 77 = .ok (.lload_n 3, 1) := by decide +kernel
theorem dX1_eliminate_78 : decode cX1_eliminate 78 = .ok (.ldiv, 1) := by decide +kernel
theorem dX1_eliminate_79 : decode cX1_eliminate 79 = .ok (.lastore, 1) := by decide +kernel
theorem dX1_eliminate_80 : decode cX1_eliminate 80 = .ok (.iinc 6 1, 3) := by decide +kernel
theorem dX1_eliminate_83 : decode cX1_eliminate 83 = .ok (.goto (-60), 3) := by decide +kernel
theorem dX1_eliminate_86 : decode cX1_eliminate 86 = .ok (.iinc 5 1, 3) := by decide +kernel
theorem dX1_eliminate_89 : decode cX1_eliminate 89 = .ok (.goto (-77), 3) := by decide +kernel
theorem dX1_eliminate_92 : decode cX1_eliminate 92 = .ok (.return_, 1) := by decide +kernel
theorem dX2_init_0 : decode cX2_init 0 = .ok (.aload_n 0, 1) := by decide +kernel
theorem dX2_init_1 : decode cX2_init 1 = .ok (.invokespecial 3, 3) := by decide +kernel
theorem dX2_init_4 : decode cX2_init 4 = .ok (.aload_n 0, 1) := by decide +kernel
theorem dX2_init_5 : decode cX2_init 5 = .ok (.iconst 1, 1) := by decide +kernel
theorem dX2_init_6 : decode cX2_init 6 = .ok (.putfield 9, 3) := by decide +kernel
theorem dX2_init_9 : decode cX2_init 9 = .ok (.aload_n 0, 1) := by decide +kernel
theorem dX2_init_10 : decode cX2_init 10 = .ok (.bipush 40, 2) := by decide +kernel
theorem dX2_init_12 : decode cX2_init 12 = .ok (.newarray .int, 2) := by decide +kernel
theorem dX2_init_14 : decode cX2_init 14 = .ok (.putfield 15, 3) := by decide +kernel
theorem dX2_init_17 : decode cX2_init 17 = .ok (.aload_n 0, 1) := by decide +kernel
theorem dX2_init_18 : decode cX2_init 18 = .ok (.bipush 40, 2) := by decide +kernel
theorem dX2_init_20 : decode cX2_init 20 = .ok (.newarray .int, 2) := by decide +kernel
theorem dX2_init_22 : decode cX2_init 22 = .ok (.putfield 19, 3) := by decide +kernel
theorem dX2_init_25 : decode cX2_init 25 = .ok (.aload_n 0, 1) := by decide +kernel
theorem dX2_init_26 : decode cX2_init 26 = .ok (.bipush 40, 2) := by decide +kernel
theorem dX2_init_28 : decode cX2_init 28 = .ok (.newarray .int, 2) := by decide +kernel
theorem dX2_init_30 : decode cX2_init 30 = .ok (.putfield 22, 3) := by decide +kernel
theorem dX2_init_33 : decode cX2_init 33 = .ok (.return_, 1) := by decide +kernel
theorem dX2_begin_0 : decode cX2_begin 0 = .ok (.aload_n 0, 1) := by decide +kernel
theorem dX2_begin_1 : decode cX2_begin 1 = .ok (.iload_n 1, 1) := by decide +kernel
theorem dX2_begin_2 : decode cX2_begin 2 = .ok (.putfield 9, 3) := by decide +kernel
theorem dX2_begin_5 : decode cX2_begin 5 = .ok (.aload_n 0, 1) := by decide +kernel
theorem dX2_begin_6 : decode cX2_begin 6 = .ok (.iconst 0, 1) := by decide +kernel
theorem dX2_begin_7 : decode cX2_begin 7 = .ok (.putfield 25, 3) := by decide +kernel
theorem dX2_begin_10 : decode cX2_begin 10 = .ok (.return_, 1) := by decide +kernel
theorem dX2_hasVertex_0 : decode cX2_hasVertex 0 = .ok (.iload_n 1, 1) := by decide +kernel
theorem dX2_hasVertex_1 : decode cX2_hasVertex 1 = .ok (.ifCond .lt 15, 3) := by decide +kernel
theorem dX2_hasVertex_4 : decode cX2_hasVertex 4 = .ok (.iload_n 1, 1) := by decide +kernel
theorem dX2_hasVertex_5 : decode cX2_hasVertex 5 = .ok (.aload_n 0, 1) := by decide +kernel
theorem dX2_hasVertex_6 : decode cX2_hasVertex 6 = .ok (.getfield 9, 3) := by decide +kernel
theorem dX2_hasVertex_9 : decode cX2_hasVertex 9 = .ok (.if_icmp .ge 7, 3) := by decide +kernel
theorem dX2_hasVertex_12 : decode cX2_hasVertex 12 = .ok (.iconst 1, 1) := by decide +kernel
theorem dX2_hasVertex_13 : decode cX2_hasVertex 13 = .ok (.goto 4, 3) := by decide +kernel
theorem dX2_hasVertex_16 : decode cX2_hasVertex 16 = .ok (.iconst 0, 1) := by decide +kernel
theorem dX2_hasVertex_17 : decode cX2_hasVertex 17 = .ok (.ireturn, 1) := by decide +kernel
theorem dX2_append_0 : decode cX2_append 0 = .ok (.aload_n 0, 1) := by decide +kernel
theorem dX2_append_1 : decode cX2_append 1 = .ok (.getfield 25, 3) := by decide +kernel
theorem dX2_append_4 : decode cX2_append 4 = .ok (.istore 4, 2) := by decide +kernel
theorem dX2_append_6 : decode cX2_append 6 = .ok (.aload_n 0, 1) := by decide +kernel
theorem dX2_append_7 : decode cX2_append 7 = .ok (.getfield 15, 3) := by decide +kernel
theorem dX2_append_10 : decode cX2_append 10 = .ok (.iload 4, 2) := by decide +kernel
theorem dX2_append_12 : decode cX2_append 12 = .ok (.iload_n 1, 1) := by decide +kernel
theorem dX2_append_13 : decode cX2_append 13 = .ok (.iastore, 1) := by decide +kernel
theorem dX2_append_14 : decode cX2_append 14 = .ok (.aload_n 0, 1) := by decide +kernel
theorem dX2_append_15 : decode cX2_append 15 = .ok (.getfield 19, 3) := by decide +kernel
theorem dX2_append_18 : decode cX2_append 18 = .ok (.iload 4, 2) := by decide +kernel
theorem dX2_append_20 : decode cX2_append 20 = .ok (.iload_n 2, 1) := by decide +kernel
theorem dX2_append_21 : decode cX2_append 21 = .ok (.iastore, 1) := by decide +kernel
theorem dX2_append_22 : decode cX2_append 22 = .ok (.aload_n 0, 1) := by decide +kernel
theorem dX2_append_23 : decode cX2_append 23 = .ok (.getfield 22, 3) := by decide +kernel
theorem dX2_append_26 : decode cX2_append 26 = .ok (.iload 4, 2) := by decide +kernel
theorem dX2_append_28 : decode cX2_append 28 = .ok (.iload_n 3, 1) := by decide +kernel
theorem dX2_append_29 : decode cX2_append 29 = .ok (.iastore, 1) := by decide +kernel
theorem dX2_append_30 : decode cX2_append 30 = .ok (.aload_n 0, 1) := by decide +kernel
theorem dX2_append_31 : decode cX2_append 31 = .ok (.dup, 1) := by decide +kernel
theorem dX2_append_32 : decode cX2_append 32 = .ok (.getfield 25, 3) := by decide +kernel
theorem dX2_append_35 : decode cX2_append 35 = .ok (.iconst 1, 1) := by decide +kernel
theorem dX2_append_36 : decode cX2_append 36 = .ok (.iadd, 1) := by decide +kernel
theorem dX2_append_37 : decode cX2_append 37 = .ok (.putfield 25, 3) := by decide +kernel
theorem dX2_append_40 : decode cX2_append 40 = .ok (.iload 4, 2) := by decide +kernel
theorem dX2_append_42 : decode cX2_append 42 = .ok (.ireturn, 1) := by decide +kernel
theorem dX2_removeLast_0 : decode cX2_removeLast 0 = .ok (.aload_n 0, 1) := by decide +kernel
theorem dX2_removeLast_1 : decode cX2_removeLast 1 = .ok (.dup, 1) := by decide +kernel
theorem dX2_removeLast_2 : decode cX2_removeLast 2 = .ok (.getfield 25, 3) := by decide +kernel
theorem dX2_removeLast_5 : decode cX2_removeLast 5 = .ok (.iconst 1, 1) := by decide +kernel
theorem dX2_removeLast_6 : decode cX2_removeLast 6 = .ok (.isub, 1) := by decide +kernel
theorem dX2_removeLast_7 : decode cX2_removeLast 7 = .ok (.putfield 25, 3) := by decide +kernel
theorem dX2_removeLast_10 : decode cX2_removeLast 10 = .ok (.aload_n 0, 1) := by decide +kernel
theorem dX2_removeLast_11 : decode cX2_removeLast 11 = .ok (.getfield 25, 3) := by decide +kernel
theorem dX2_removeLast_14 : decode cX2_removeLast 14 = .ok (.ireturn, 1) := by decide +kernel
set_option maxRecDepth 20000 in
theorem ggX2_isEven_X7_has : GoodIn wsX2_isEven wsX7_has := goodIn_r _ [6] (by decide +kernel) (by decide +kernel)
set_option maxRecDepth 20000 in
theorem gX2_isEven_X7_has_n28 : GoodIn wsX2_isEven (wsX7_has) := ggX2_isEven_X7_has
theorem dX2_isEven_0 : decode cX2_isEven 0 = .ok (.iconst 0, 1) := by decide +kernel
theorem dX2_isEven_1 : decode cX2_isEven 1 = .ok (.istore_n 3, 1) := by decide +kernel
theorem dX2_isEven_2 : decode cX2_isEven 2 = .ok (.iconst 0, 1) := by decide +kernel
theorem dX2_isEven_3 : decode cX2_isEven 3 = .ok (.istore 4, 2) := by decide +kernel
theorem dX2_isEven_5 : decode cX2_isEven 5 = .ok (.iload 4, 2) := by decide +kernel
theorem dX2_isEven_7 : decode cX2_isEven 7 = .ok (.aload_n 0, 1) := by decide +kernel
theorem dX2_isEven_8 : decode cX2_isEven 8 = .ok (.getfield 25, 3) := by decide +kernel
theorem dX2_isEven_11 : decode cX2_isEven 11 = .ok (.if_icmp .ge 42, 3) := by decide +kernel
theorem dX2_isEven_14 : decode cX2_isEven 14 = .ok (.lload_n 1, 1) := by decide +kernel
theorem dX2_isEven_15 : decode cX2_isEven 15 = .ok (.iload 4, 2) := by decide +kernel
theorem dX2_isEven_17 : decode cX2_isEven 17 = .ok (.invokestatic 28, 3) := by decide +kernel
theorem dX2_isEven_20 : decode cX2_isEven 20 = .ok (.ifCond .eq 27, 3) := by decide +kernel
theorem dX2_isEven_23 : decode cX2_isEven 23 = .ok (.iload_n 3, 1) := by decide +kernel
theorem dX2_isEven_24 : decode cX2_isEven 24 = .ok (.iconst 1, 1) := by decide +kernel
theorem dX2_isEven_25 : decode cX2_isEven 25 = .ok (.aload_n 0, 1) := by decide +kernel
theorem dX2_isEven_26 : decode cX2_isEven 26 = .ok (.getfield 15, 3) := by decide +kernel
theorem dX2_isEven_29 : decode cX2_isEven 29 = .ok (.iload 4, 2) := by decide +kernel
theorem dX2_isEven_31 : decode cX2_isEven 31 = .ok (.iaload, 1) := by decide +kernel
theorem dX2_isEven_32 : decode cX2_isEven 32 = .ok (.ishl, 1) := by decide +kernel
theorem dX2_isEven_33 : decode cX2_isEven 33 = .ok (.ixor, 1) := by decide +kernel
theorem dX2_isEven_34 : decode cX2_isEven 34 = .ok (.istore_n 3, 1) := by decide +kernel
theorem dX2_isEven_35 : decode cX2_isEven 35 = .ok (.iload_n 3, 1) := by decide +kernel
theorem dX2_isEven_36 : decode cX2_isEven 36 = .ok (.iconst 1, 1) := by decide +kernel
theorem dX2_isEven_37 : decode cX2_isEven 37 = .ok (.aload_n 0, 1) := by decide +kernel
theorem dX2_isEven_38 : decode cX2_isEven 38 = .ok (.getfield 19, 3) := by decide +kernel
theorem dX2_isEven_41 : decode cX2_isEven 41 = .ok (.iload 4, 2) := by decide +kernel
theorem dX2_isEven_43 : decode cX2_isEven 43 = .ok (.iaload, 1) := by decide +kernel
theorem dX2_isEven_44 : decode cX2_isEven 44 = .ok (.ishl, 1) := by decide +kernel
theorem dX2_isEven_45 : decode cX2_isEven 45 = .ok (.ixor, 1) := by decide +kernel
theorem dX2_isEven_46 : decode cX2_isEven 46 = .ok (.istore_n 3, 1) := by decide +kernel
theorem dX2_isEven_47 : decode cX2_isEven 47 = .ok (.iinc 4 1, 3) := by decide +kernel
theorem dX2_isEven_50 : decode cX2_isEven 50 = .ok (.goto (-45), 3) := by decide +kernel
theorem dX2_isEven_53 : decode cX2_isEven 53 = .ok (.iload_n 3, 1) := by decide +kernel
theorem dX2_isEven_54 : decode cX2_isEven 54 = .ok (.ifCond .ne 7, 3) := by decide +kernel
theorem dX2_isEven_57 : decode cX2_isEven 57 = .ok (.iconst 1, 1) := by decide +kernel
theorem dX2_isEven_58 : decode cX2_isEven 58 = .ok (.goto 4, 3) := by decide +kernel
theorem dX2_isEven_61 : decode cX2_isEven 61 = .ok (.iconst 0, 1) := by decide +kernel
theorem dX2_isEven_62 : decode cX2_isEven 62 = .ok (.ireturn, 1) := by decide +kernel
set_option maxRecDepth 20000 in
theorem ggX2_weigh_X2_gain : GoodIn wsX2_weigh wsX2_gain := goodIn_r _ [5, 6, 7, 8, 9, 10, 11, 12, 13, 14, 15, 16, 17, 18, 19, 20, 21, 22, 23, 24, 25, 26, 27, 28, 29] (by decide +kernel) (by decide +kernel)
set_option maxRecDepth 20000 in
theorem gX2_weigh_X2_gain : GoodIn wsX2_weigh (wsV RX2 32 RX2 yX2_gain wsX2_gain) := goodIn_app (goodIn_of _ (by decide +kernel)) ggX2_weigh_X2_gain
theorem dX2_weigh_0 : decode cX2_weigh 0 = .ok (.aload_n 0, 1) := by decide +kernel
theorem dX2_weigh_1 : decode cX2_weigh 1 = .ok (.lload_n 1, 1) := by decide +kernel
theorem dX2_weigh_2 : decode cX2_weigh 2 = .ok (.lload_n 1, 1) := by decide +kernel
theorem dX2_weigh_3 : decode cX2_weigh 3 = .ok (.invokevirtual 32, 3) := by decide +kernel
theorem dX2_weigh_6 : decode cX2_weigh 6 = .ok (.lreturn, 1) := by decide +kernel
set_option maxRecDepth 20000 in
theorem ggX2_gain_J13_bitCount_95d88 : GoodIn wsX2_gain wsJ13_bitCount_95d88 := goodIn_r _ [5, 6, 7, 8] (by decide +kernel) (by decide +kernel)
set_option maxRecDepth 20000 in
theorem gX2_gain_J13_bitCount_95d88 : GoodIn wsX2_gain (va_wsS RX2 36 yJ13_bitCount_95d88 wsJ13_bitCount_95d88) := goodIn_app (goodIn_of _ (by decide +kernel)) ggX2_gain_J13_bitCount_95d88
set_option maxRecDepth 20000 in
theorem ggX2_gain_J13_numberOfTrailingZeros_95d88 : GoodIn wsX2_gain wsJ13_numberOfTrailingZeros_95d88 := goodIn_r _ [11, 12, 13, 14, 15, 16] (by decide +kernel) (by decide +kernel)
set_option maxRecDepth 20000 in
theorem gX2_gain_J13_numberOfTrailingZeros_95d88 : GoodIn wsX2_gain (va_wsS RX2 42 yJ13_numberOfTrailingZeros_95d88 wsJ13_numberOfTrailingZeros_95d88) := goodIn_app (goodIn_of _ (by decide +kernel)) ggX2_gain_J13_numberOfTrailingZeros_95d88
set_option maxRecDepth 20000 in
theorem ggX2_gain_X7_has : GoodIn wsX2_gain wsX7_has := goodIn_r _ [19] (by decide +kernel) (by decide +kernel)
set_option maxRecDepth 20000 in
theorem gX2_gain_X7_has_n28 : GoodIn wsX2_gain (wsX7_has) := ggX2_gain_X7_has
theorem dX2_gain_0 : decode cX2_gain 0 = .ok (.lconst 0, 1) := by decide +kernel
theorem dX2_gain_1 : decode cX2_gain 1 = .ok (.lstore 5, 2) := by decide +kernel
theorem dX2_gain_3 : decode cX2_gain 3 = .ok (.lload_n 1, 1) := by decide +kernel
theorem dX2_gain_4 : decode cX2_gain 4 = .ok (.lstore 7, 2) := by decide +kernel
theorem dX2_gain_6 : decode cX2_gain 6 = .ok (.lload_n 1, 1) := by decide +kernel
theorem dX2_gain_7 : decode cX2_gain 7 = .ok (.invokestatic 36, 3) := by decide +kernel
theorem dX2_gain_10 : decode cX2_gain 10 = .ok (.istore 9, 2) := by decide +kernel
theorem dX2_gain_12 : decode cX2_gain 12 = .ok (.iload 9, 2) := by decide +kernel
theorem dX2_gain_14 : decode cX2_gain 14 = .ok (.ifCond .le 59, 3) := by decide +kernel
theorem dX2_gain_17 : decode cX2_gain 17 = .ok (.lload 7, 2) := by decide +kernel
theorem dX2_gain_19 : decode cX2_gain 19 = .ok (.invokestatic 42, 3) := by decide +kernel
theorem dX2_gain_22 : decode cX2_gain 22 = .ok (.istore 10, 2) := by decide +kernel
theorem dX2_gain_24 : decode cX2_gain 24 = .ok (.lload 5, 2) := by decide +kernel
theorem dX2_gain_26 : decode cX2_gain 26 = .ok (.lload_n 3, 1) := by decide +kernel
theorem dX2_gain_27 : decode cX2_gain 27 = .ok (.iload 10, 2) := by decide +kernel
theorem dX2_gain_29 : decode cX2_gain 29 = .ok (.invokestatic 28, 3) := by decide +kernel
theorem dX2_gain_32 : decode cX2_gain 32 = .ok (.ifCond .eq 14, 3) := by decide +kernel
theorem dX2_gain_35 : decode cX2_gain 35 = .ok (.aload_n 0, 1) := by decide +kernel
theorem dX2_gain_36 : decode cX2_gain 36 = .ok (.getfield 22, 3) := by decide +kernel
theorem dX2_gain_39 : decode cX2_gain 39 = .ok (.iload 10, 2) := by decide +kernel
theorem dX2_gain_41 : decode cX2_gain 41 = .ok (.iaload, 1) := by decide +kernel
theorem dX2_gain_42 : decode cX2_gain 42 = .ok (.i2l, 1) := by decide +kernel
theorem dX2_gain_43 : decode cX2_gain 43 = .ok (.goto 12, 3) := by decide +kernel
theorem dX2_gain_46 : decode cX2_gain 46 = .ok (.aload_n 0, 1) := by decide +kernel
theorem dX2_gain_47 : decode cX2_gain 47 = .ok (.getfield 22, 3) := by decide +kernel
theorem dX2_gain_50 : decode cX2_gain 50 = .ok (.iload 10, 2) := by decide +kernel
theorem dX2_gain_52 : decode cX2_gain 52 = .ok (.iaload, 1) := by decide +kernel
theorem dX2_gain_53 : decode cX2_gain 53 = .ok (.ineg, 1) := by decide +kernel
theorem dX2_gain_54 : decode cX2_gain 54 = .ok (.i2l, 1) := by decide +kernel
theorem dX2_gain_55 : decode cX2_gain 55 = .ok (.ladd, 1) := by decide +kernel
theorem dX2_gain_56 : decode cX2_gain 56 = .ok (.lstore 5, 2) := by decide +kernel
theorem dX2_gain_58 : decode cX2_gain 58 = .ok (.lload 7, 2) := by decide +kernel
theorem dX2_gain_60 : decode cX2_gain 60 = .ok (.lload 7, 2) := by decide +kernel
theorem dX2_gain_62 : decode cX2_gain 62 = .ok (.lconst 1, 1) := by decide +kernel
theorem dX2_gain_63 : decode cX2_gain 63 = .ok (.lsub, 1) := by decide +kernel
theorem dX2_gain_64 : decode cX2_gain 64 = .ok (.land, 1) := by decide +kernel
theorem dX2_gain_65 : decode cX2_gain 65 = .ok (.lstore 7, 2) := by decide +kernel
theorem dX2_gain_67 : decode cX2_gain 67 = .ok (.iinc 9 (-1), 3) := by decide +kernel
theorem dX2_gain_70 : decode cX2_gain 70 = .ok (.goto (-58), 3) := by decide +kernel
theorem dX2_gain_73 : decode cX2_gain 73 = .ok (.lload 5, 2) := by decide +kernel
theorem dX2_gain_75 : decode cX2_gain 75 = .ok (.lreturn, 1) := by decide +kernel
theorem dX2_edgesApartFrom_0 : decode cX2_edgesApartFrom 0 = .ok (.lconst 0, 1) := by decide +kernel
theorem dX2_edgesApartFrom_1 : decode cX2_edgesApartFrom 1 = .ok (.lstore_n 2, 1) := by decide +kernel
theorem dX2_edgesApartFrom_2 : decode cX2_edgesApartFrom 2 = .ok (.iconst 0, 1) := by decide +kernel
theorem dX2_edgesApartFrom_3 : decode cX2_edgesApartFrom 3 = .ok (.istore 4, 2) := by decide +kernel
theorem dX2_edgesApartFrom_5 : decode cX2_edgesApartFrom 5 = .ok (.iload 4, 2) := by decide +kernel
theorem dX2_edgesApartFrom_7 : decode cX2_edgesApartFrom 7 = .ok (.aload_n 0, 1) := by decide +kernel
theorem dX2_edgesApartFrom_8 : decode cX2_edgesApartFrom 8 = .ok (.getfield 25, 3) := by decide +kernel
theorem dX2_edgesApartFrom_11 : decode cX2_edgesApartFrom 11 = .ok (.if_icmp .ge 38, 3) := by decide +kernel
theorem dX2_edgesApartFrom_14 : decode cX2_edgesApartFrom 14 = .ok (.aload_n 0, 1) := by decide +kernel
theorem dX2_edgesApartFrom_15 : decode cX2_edgesApartFrom 15 = .ok (.getfield 15, 3) := by decide +kernel
theorem dX2_edgesApartFrom_18 : decode cX2_edgesApartFrom 18 = .ok (.iload 4, 2) := by decide +kernel
theorem dX2_edgesApartFrom_20 : decode cX2_edgesApartFrom 20 = .ok (.iaload, 1) := by decide +kernel
theorem dX2_edgesApartFrom_21 : decode cX2_edgesApartFrom 21 = .ok (.iload_n 1, 1) := by decide +kernel
theorem dX2_edgesApartFrom_22 : decode cX2_edgesApartFrom 22 = .ok (.if_icmp .eq 21, 3) := by decide +kernel
theorem dX2_edgesApartFrom_25 : decode cX2_edgesApartFrom 25 = .ok (.aload_n 0, 1) := by decide +kernel
theorem dX2_edgesApartFrom_26 : decode cX2_edgesApartFrom 26 = .ok (.getfield 19, 3) := by decide +kernel
theorem dX2_edgesApartFrom_29 : decode cX2_edgesApartFrom 29 = .ok (.iload 4, 2) := by decide +kernel
theorem dX2_edgesApartFrom_31 : decode cX2_edgesApartFrom 31 = .ok (.iaload, 1) := by decide +kernel
theorem dX2_edgesApartFrom_32 : decode cX2_edgesApartFrom 32 = .ok (.iload_n 1, 1) := by decide +kernel
theorem dX2_edgesApartFrom_33 : decode cX2_edgesApartFrom 33 = .ok (.if_icmp .eq 10, 3) := by decide +kernel
theorem dX2_edgesApartFrom_36 : decode cX2_edgesApartFrom 36 = .ok (.lload_n 2, 1) := by decide +kernel
theorem dX2_edgesApartFrom_37 : decode cX2_edgesApartFrom 37 = .ok (.lconst 1, 1) := by decide +kernel
theorem dX2_edgesApartFrom_38 : decode cX2_edgesApartFrom 38 = .ok (.iload 4, 2) := by decide +kernel
theorem dX2_edgesApartFrom_40 : decode cX2_edgesApartFrom 40 = .ok (.lshl, 1) := by decide +kernel
theorem dX2_edgesApartFrom_41 : decode cX2_edgesApartFrom 41 = .ok (.lor, 1) := by decide +kernel
theorem dX2_edgesApartFrom_42 : decode cX2_edgesApartFrom 42 = .ok (.lstore_n 2, 1) := by decide +kernel
theorem dX2_edgesApartFrom_43 : decode cX2_edgesApartFrom 43 = .ok (.iinc 4 1, 3) := by decide +kernel
theorem dX2_edgesApartFrom_46 : decode cX2_edgesApartFrom 46 = .ok (.goto (-41), 3) := by decide +kernel
theorem dX2_edgesApartFrom_49 : decode cX2_edgesApartFrom 49 = .ok (.lload_n 2, 1) := by decide +kernel
theorem dX2_edgesApartFrom_50 : decode cX2_edgesApartFrom 50 = .ok (.lreturn, 1) := by decide +kernel
theorem dX3_init_0 : decode cX3_init 0 = .ok (.aload_n 0, 1) := by decide +kernel
theorem dX3_init_1 : decode cX3_init 1 = .ok (.invokespecial 3, 3) := by decide +kernel
theorem dX3_init_4 : decode cX3_init 4 = .ok (.aload_n 0, 1) := by decide +kernel
theorem dX3_init_5 : decode cX3_init 5 = .ok (.bipush 16, 2) := by decide +kernel
theorem dX3_init_7 : decode cX3_init 7 = .ok (.newarray .int, 2) := by decide +kernel
theorem dX3_init_9 : decode cX3_init 9 = .ok (.putfield 9, 3) := by decide +kernel
theorem dX3_init_12 : decode cX3_init 12 = .ok (.aload_n 0, 1) := by decide +kernel
theorem dX3_init_13 : decode cX3_init 13 = .ok (.bipush 16, 2) := by decide +kernel
theorem dX3_init_15 : decode cX3_init 15 = .ok (.newarray .long, 2) := by decide +kernel
theorem dX3_init_17 : decode cX3_init 17 = .ok (.putfield 15, 3) := by decide +kernel
theorem dX3_init_20 : decode cX3_init 20 = .ok (.return_, 1) := by decide +kernel
theorem dX3_part_0 : decode cX3_part 0 = .ok (.aload_n 0, 1) := by decide +kernel
theorem dX3_part_1 : decode cX3_part 1 = .ok (.iload_n 1, 1) := by decide +kernel
theorem dX3_part_2 : decode cX3_part 2 = .ok (.putfield 19, 3) := by decide +kernel
theorem dX3_part_5 : decode cX3_part 5 = .ok (.aload_n 0, 1) := by decide +kernel
theorem dX3_part_6 : decode cX3_part 6 = .ok (.iload_n 1, 1) := by decide +kernel
theorem dX3_part_7 : decode cX3_part 7 = .ok (.putfield 23, 3) := by decide +kernel
theorem dX3_part_10 : decode cX3_part 10 = .ok (.iconst 0, 1) := by decide +kernel
theorem dX3_part_11 : decode cX3_part 11 = .ok (.istore_n 2, 1) := by decide +kernel
theorem dX3_part_12 : decode cX3_part 12 = .ok (.iload_n 2, 1) := by decide +kernel
theorem dX3_part_13 : decode cX3_part 13 = .ok (.iload_n 1, 1) := by decide +kernel
theorem dX3_part_14 : decode cX3_part 14 = .ok (.if_icmp .ge 23, 3) := by decide +kernel
theorem dX3_part_17 : decode cX3_part 17 = .ok (.aload_n 0, 1) := by decide +kernel
theorem dX3_part_18 : decode cX3_part 18 = .ok (.getfield 9, 3) := by decide +kernel
theorem dX3_part_21 : decode cX3_part 21 = .ok (.iload_n 2, 1) := by decide +kernel
theorem dX3_part_22 : decode cX3_part 22 = .ok (.iload_n 2, 1) := by decide +kernel
theorem dX3_part_23 : decode cX3_part 23 = .ok (.iastore, 1) := by decide +kernel
theorem dX3_part_24 : decode cX3_part 24 = .ok (.aload_n 0, 1) := by decide +kernel
theorem dX3_part_25 : decode cX3_part 25 = .ok (.getfield 15, 3) := by decide +kernel
theorem dX3_part_28 : decode cX3_part 28 = .ok (.iload_n 2, 1) := by decide +kernel
theorem dX3_part_29 : decode cX3_part 29 = .ok (.lconst 0, 1) := by decide +kernel
theorem dX3_part_30 : decode cX3_part 30 = .ok (.lastore, 1) := by decide +kernel
theorem dX3_part_31 : decode cX3_part 31 = .ok (.iinc 2 1, 3) := by decide +kernel
theorem dX3_part_34 : decode cX3_part 34 = .ok (.goto (-22), 3) := by decide +kernel
theorem dX3_part_37 : decode cX3_part 37 = .ok (.return_, 1) := by decide +kernel
theorem dX3_together_0 : decode cX3_together 0 = .ok (.aload_n 0, 1) := by decide +kernel
theorem dX3_together_1 : decode cX3_together 1 = .ok (.getfield 9, 3) := by decide +kernel
theorem dX3_together_4 : decode cX3_together 4 = .ok (.iload_n 1, 1) := by decide +kernel
theorem dX3_together_5 : decode cX3_together 5 = .ok (.iaload, 1) := by decide +kernel
theorem dX3_together_6 : decode cX3_together 6 = .ok (.aload_n 0, 1) := by decide +kernel
theorem dX3_together_7 : decode cX3_together 7 = .ok (.getfield 9, 3) := by decide +kernel
theorem dX3_together_10 : decode cX3_together 10 = .ok (.iload_n 2, 1) := by decide +kernel
theorem dX3_together_11 : decode cX3_together 11 = .ok (.iaload, 1) := by decide +kernel
theorem dX3_together_12 : decode cX3_together 12 = .ok (.if_icmp .ne 7, 3) := by decide +kernel
theorem dX3_together_15 : decode cX3_together 15 = .ok (.iconst 1, 1) := by decide +kernel
theorem dX3_together_16 : decode cX3_together 16 = .ok (.goto 4, 3) := by decide +kernel
theorem dX3_together_19 : decode cX3_together 19 = .ok (.iconst 0, 1) := by decide +kernel
theorem dX3_together_20 : decode cX3_together 20 = .ok (.ireturn, 1) := by decide +kernel
set_option maxRecDepth 20000 in
theorem ggX3_join_X3_together : GoodIn wsX3_join wsX3_together := goodIn_r _ [7, 2, 19, 20, 21, 22] (by decide +kernel) (by decide +kernel)
set_option maxRecDepth 20000 in
theorem gX3_join_X3_together : GoodIn wsX3_join (wsV RX3 34 RX3 yX3_together wsX3_together) := goodIn_app (goodIn_of _ (by decide +kernel)) ggX3_join_X3_together
set_option maxRecDepth 20000 in
theorem ggX3_join_X3_merge : GoodIn wsX3_join wsX3_merge := goodIn_r _ [11, 12, 2, 1, 13, 19, 20, 21, 22] (by decide +kernel) (by decide +kernel)
set_option maxRecDepth 20000 in
theorem gX3_join_X3_merge : GoodIn wsX3_join (wsV RX3 38 RX3 yX3_merge wsX3_merge) := goodIn_app (goodIn_of _ (by decide +kernel)) ggX3_join_X3_merge
theorem dX3_join_0 : decode cX3_join 0 = .ok (.aload_n 1, 1) := by decide +kernel
theorem dX3_join_1 : decode cX3_join 1 = .ok (.getfield 26, 3) := by decide +kernel
theorem dX3_join_4 : decode cX3_join 4 = .ok (.iload_n 2, 1) := by decide +kernel
theorem dX3_join_5 : decode cX3_join 5 = .ok (.iaload, 1) := by decide +kernel
theorem dX3_join_6 : decode cX3_join 6 = .ok (.istore_n 3, 1) := by decide +kernel
theorem dX3_join_7 : decode cX3_join 7 = .ok (.aload_n 1, 1) := by decide +kernel
theorem dX3_join_8 : decode cX3_join 8 = .ok (.getfield 31, 3) := by decide +kernel
theorem dX3_join_11 : decode cX3_join 11 = .ok (.iload_n 2, 1) := by decide +kernel
theorem dX3_join_12 : decode cX3_join 12 = .ok (.iaload, 1) := by decide +kernel
theorem dX3_join_13 : decode cX3_join 13 = .ok (.istore 4, 2) := by decide +kernel
theorem dX3_join_15 : decode cX3_join 15 = .ok (.aload_n 0, 1) := by decide +kernel
theorem dX3_join_16 : decode cX3_join 16 = .ok (.getfield 15, 3) := by decide +kernel
theorem dX3_join_19 : decode cX3_join 19 = .ok (.iload_n 3, 1) := by decide +kernel
theorem dX3_join_20 : decode cX3_join 20 = .ok (.laload, 1) := by decide +kernel
theorem dX3_join_21 : decode cX3_join 21 = .ok (.aload_n 0, 1) := by decide +kernel
theorem dX3_join_22 : decode cX3_join 22 = .ok (.getfield 15, 3) := by decide +kernel
theorem dX3_join_25 : decode cX3_join 25 = .ok (.iload 4, 2) := by decide +kernel
theorem dX3_join_27 : decode cX3_join 27 = .ok (.laload, 1) := by decide +kernel
theorem dX3_join_28 : decode cX3_join 28 = .ok (.lxor, 1) := by decide +kernel
theorem dX3_join_29 : decode cX3_join 29 = .ok (.lconst 1, 1) := by decide +kernel
theorem dX3_join_30 : decode cX3_join 30 = .ok (.iload_n 2, 1) := by decide +kernel
theorem dX3_join_31 : decode cX3_join 31 = .ok (.lshl, 1) := by decide +kernel
theorem dX3_join_32 : decode cX3_join 32 = .ok (.lxor, 1) := by decide +kernel
theorem dX3_join_33 : decode cX3_join 33 = .ok (.lstore 5, 2) := by decide +kernel
theorem dX3_join_35 : decode cX3_join 35 = .ok (.aload_n 0, 1) := by decide +kernel
theorem dX3_join_36 : decode cX3_join 36 = .ok (.iload_n 3, 1) := by decide +kernel
theorem dX3_join_37 : decode cX3_join 37 = .ok (.iload 4, 2) := by decide +kernel
theorem dX3_join_39 : decode cX3_join 39 = .ok (.invokevirtual 34, 3) := by decide +kernel
theorem dX3_join_42 : decode cX3_join 42 = .ok (.ifCond .eq 6, 3) := by decide +kernel
theorem dX3_join_45 : decode cX3_join 45 = .ok (.lload 5, 2) := by decide +kernel
theorem dX3_join_47 : decode cX3_join 47 = .ok (.lreturn, 1) := by decide +kernel
theorem dX3_join_48 : decode cX3_join 48 = .ok (.aload_n 0, 1) := by decide +kernel
theorem dX3_join_49 : decode cX3_join 49 = .ok (.aload_n 0, 1) := by decide +kernel
theorem dX3_join_50 : decode cX3_join 50 = .ok (.getfield 9, 3) := by decide +kernel
theorem dX3_join_53 : decode cX3_join 53 = .ok (.iload_n 3, 1) := by decide +kernel
theorem dX3_join_54 : decode cX3_join 54 = .ok (.iaload, 1) := by decide +kernel
theorem dX3_join_55 : decode cX3_join 55 = .ok (.aload_n 0, 1) := by decide +kernel
theorem dX3_join_56 : decode cX3_join 56 = .ok (.getfield 9, 3) := by decide +kernel
theorem dX3_join_59 : decode cX3_join 59 = .ok (.iload 4, 2) := by decide +kernel
theorem dX3_join_61 : decode cX3_join 61 = .ok (.iaload, 1) := by decide +kernel
theorem dX3_join_62 : decode cX3_join 62 = .ok (.lload 5, 2) := by decide +kernel
theorem dX3_join_64 : decode cX3_join 64 = .ok (.invokevirtual 38, 3) := by decide +kernel
theorem dX3_join_67 : decode cX3_join 67 = .ok (.lconst 0, 1) := by decide +kernel
theorem dX3_join_68 : decode cX3_join 68 = .ok (.lreturn, 1) := by decide +kernel
theorem dX3_merge_0 : decode cX3_merge 0 = .ok (.iconst 0, 1) := by decide +kernel
theorem dX3_merge_1 : decode cX3_merge 1 = .ok (.istore 5, 2) := by decide +kernel
theorem dX3_merge_3 : decode cX3_merge 3 = .ok (.iload 5, 2) := by decide +kernel
theorem dX3_merge_5 : decode cX3_merge 5 = .ok (.aload_n 0, 1) := by decide +kernel
theorem dX3_merge_6 : decode cX3_merge 6 = .ok (.getfield 19, 3) := by decide +kernel
theorem dX3_merge_9 : decode cX3_merge 9 = .ok (.if_icmp .ge 39, 3) := by decide +kernel
theorem dX3_merge_12 : decode cX3_merge 12 = .ok (.aload_n 0, 1) := by decide +kernel
theorem dX3_merge_13 : decode cX3_merge 13 = .ok (.getfield 9, 3) := by decide +kernel
theorem dX3_merge_16 : decode cX3_merge 16 = .ok (.iload 5, 2) := by decide +kernel
theorem dX3_merge_18 : decode cX3_merge 18 = .ok (.iaload, 1) := by decide +kernel
theorem dX3_merge_19 : decode cX3_merge 19 = .ok (.iload_n 2, 1) := by decide +kernel
theorem dX3_merge_20 : decode cX3_merge 20 = .ok (.if_icmp .ne 22, 3) := by decide +kernel
theorem dX3_merge_23 : decode cX3_merge 23 = .ok (.aload_n 0, 1) := by decide +kernel
theorem dX3_merge_24 : decode cX3_merge 24 = .ok (.getfield 9, 3) := by decide +kernel
theorem dX3_merge_27 : decode cX3_merge 27 = .ok (.iload 5, 2) := by decide +kernel
theorem dX3_merge_29 : decode cX3_merge 29 = .ok (.iload_n 1, 1) := by decide +kernel
theorem dX3_merge_30 : decode cX3_merge 30 = .ok (.iastore, 1) := by decide +kernel
theorem dX3_merge_31 : decode cX3_merge 31 = .ok (.aload_n 0, 1) := by decide +kernel
theorem dX3_merge_32 : decode cX3_merge 32 = .ok (.getfield 15, 3) := by decide +kernel
theorem dX3_merge_35 : decode cX3_merge 35 = .ok (.iload 5, 2) := by decide +kernel
theorem dX3_merge_37 : decode cX3_merge 37 = .ok (.dup2, 1) := by decide +kernel
theorem dX3_merge_38 : decode cX3_merge 38 = .ok (.laload, 1) := by decide +kernel
theorem dX3_merge_39 : decode cX3_merge 39 = .ok (.lload_n 3, 1) := by decide +kernel
theorem dX3_merge_40 : decode cX3_merge 40 = .ok (.lxor, 1) := by decide +kernel
theorem dX3_merge_41 : decode cX3_merge 41 = .ok (.lastore, 1) := by decide +kernel
theorem dX3_merge_42 : decode cX3_merge 42 = .ok (.iinc 5 1, 3) := by decide +kernel
theorem dX3_merge_45 : decode cX3_merge 45 = .ok (.goto (-42), 3) := by decide +kernel
theorem dX3_merge_48 : decode cX3_merge 48 = .ok (.aload_n 0, 1) := by decide +kernel
theorem dX3_merge_49 : decode cX3_merge 49 = .ok (.dup, 1) := by decide +kernel
theorem dX3_merge_50 : decode cX3_merge 50 = .ok (.getfield 23, 3) := by decide +kernel
theorem dX3_merge_53 : decode cX3_merge 53 = .ok (.iconst 1, 1) := by decide +kernel
theorem dX3_merge_54 : decode cX3_merge 54 = .ok (.isub, 1) := by decide +kernel
theorem dX3_merge_55 : decode cX3_merge 55 = .ok (.putfield 23, 3) := by decide +kernel
theorem dX3_merge_58 : decode cX3_merge 58 = .ok (.return_, 1) := by decide +kernel
theorem dX4_init_0 : decode cX4_init 0 = .ok (.aload_n 0, 1) := by decide +kernel
theorem dX4_init_1 : decode cX4_init 1 = .ok (.invokespecial 3, 3) := by decide +kernel
theorem dX4_init_4 : decode cX4_init 4 = .ok (.aload_n 0, 1) := by decide +kernel
theorem dX4_init_5 : decode cX4_init 5 = .ok (.bipush 14, 2) := by decide +kernel
theorem dX4_init_7 : decode cX4_init 7 = .ok (.newarray .long, 2) := by decide +kernel
theorem dX4_init_9 : decode cX4_init 9 = .ok (.putfield 9, 3) := by decide +kernel
theorem dX4_init_12 : decode cX4_init 12 = .ok (.aload_n 0, 1) := by decide +kernel
theorem dX4_init_13 : decode cX4_init 13 = .ok (.bipush 14, 2) := by decide +kernel
theorem dX4_init_15 : decode cX4_init 15 = .ok (.newarray .long, 2) := by decide +kernel
theorem dX4_init_17 : decode cX4_init 17 = .ok (.putfield 15, 3) := by decide +kernel
theorem dX4_init_20 : decode cX4_init 20 = .ok (.aload_n 0, 1) := by decide +kernel
theorem dX4_init_21 : decode cX4_init 21 = .ok (.sipush 640, 3) := by decide +kernel
theorem dX4_init_24 : decode cX4_init 24 = .ok (.newarray .long, 2) := by decide +kernel
theorem dX4_init_26 : decode cX4_init 26 = .ok (.putfield 18, 3) := by decide +kernel
theorem dX4_init_29 : decode cX4_init 29 = .ok (.aload_n 0, 1) := by decide +kernel
theorem dX4_init_30 : decode cX4_init 30 = .ok (.sipush 640, 3) := by decide +kernel
theorem dX4_init_33 : decode cX4_init 33 = .ok (.newarray .long, 2) := by decide +kernel
theorem dX4_init_35 : decode cX4_init 35 = .ok (.putfield 21, 3) := by decide +kernel
theorem dX4_init_38 : decode cX4_init 38 = .ok (.return_, 1) := by decide +kernel
set_option maxRecDepth 20000 in
theorem ggX4_find_X4_gatherAll : GoodIn wsX4_find wsX4_gatherAll := goodIn_r _ [10, 11, 12, 13, 14, 15, 16, 17, 18, 19, 20, 21, 22, 23, 24, 25, 26, 27, 28, 29, 30, 9, 31, 3, 5, 32, 33, 34, 35, 47, 48, 49, 50, 51, 52, 53, 54, 55, 56, 57, 58, 59] (by decide +kernel) (by decide +kernel)
set_option maxRecDepth 20000 in
theorem gX4_find_X4_gatherAll : GoodIn wsX4_find (wsV RX4 24 RX4 yX4_gatherAll wsX4_gatherAll) := goodIn_app (goodIn_of _ (by decide +kernel)) ggX4_find_X4_gatherAll
set_option maxRecDepth 20000 in
theorem ggX4_find_X4_lightestLeft : GoodIn wsX4_find wsX4_lightestLeft := goodIn_r _ [39, 11, 3, 5, 47, 48, 49, 50, 51, 52] (by decide +kernel) (by decide +kernel)
set_option maxRecDepth 20000 in
theorem gX4_find_X4_lightestLeft : GoodIn wsX4_find (wsV RX4 32 RX4 yX4_lightestLeft wsX4_lightestLeft) := goodIn_app (goodIn_of _ (by decide +kernel)) ggX4_find_X4_lightestLeft
set_option maxRecDepth 20000 in
theorem ggX4_find_X4_strike : GoodIn wsX4_find wsX4_strike := goodIn_r _ [43, 11, 3, 44, 45, 9, 46, 47, 48, 49, 50, 51, 52] (by decide +kernel) (by decide +kernel)
set_option maxRecDepth 20000 in
theorem gX4_find_X4_strike : GoodIn wsX4_find (wsV RX4 36 RX4 yX4_strike wsX4_strike) := goodIn_app (goodIn_of _ (by decide +kernel)) ggX4_find_X4_strike
theorem dX4_find_0 : decode cX4_find 0 = .ok (.aload_n 0, 1) := by decide +kernel
theorem dX4_find_1 : decode cX4_find 1 = .ok (.aload_n 1, 1) := by decide +kernel
theorem dX4_find_2 : decode cX4_find 2 = .ok (.aload_n 2, 1) := by decide +kernel
theorem dX4_find_3 : decode cX4_find 3 = .ok (.invokevirtual 24, 3) := by decide +kernel
theorem dX4_find_6 : decode cX4_find 6 = .ok (.aload_n 0, 1) := by decide +kernel
theorem dX4_find_7 : decode cX4_find 7 = .ok (.iconst 0, 1) := by decide +kernel
theorem dX4_find_8 : decode cX4_find 8 = .ok (.putfield 28, 3) := by decide +kernel
theorem dX4_find_11 : decode cX4_find 11 = .ok (.aload_n 0, 1) := by decide +kernel
theorem dX4_find_12 : decode cX4_find 12 = .ok (.getfield 28, 3) := by decide +kernel
theorem dX4_find_15 : decode cX4_find 15 = .ok (.bipush 14, 2) := by decide +kernel
theorem dX4_find_17 : decode cX4_find 17 = .ok (.if_icmp .ge 67, 3) := by decide +kernel
theorem dX4_find_20 : decode cX4_find 20 = .ok (.aload_n 0, 1) := by decide +kernel
theorem dX4_find_21 : decode cX4_find 21 = .ok (.invokevirtual 32, 3) := by decide +kernel
theorem dX4_find_24 : decode cX4_find 24 = .ok (.istore_n 3, 1) := by decide +kernel
theorem dX4_find_25 : decode cX4_find 25 = .ok (.iload_n 3, 1) := by decide +kernel
theorem dX4_find_26 : decode cX4_find 26 = .ok (.iconst (-1), 1) := by decide +kernel
theorem dX4_find_27 : decode cX4_find 27 = .ok (.if_icmp .ne 4, 3) := by decide +kernel
theorem dX4_find_30 : decode cX4_find 30 = .ok (.return_, 1) := by decide +kernel
theorem dX4_find_31 : decode cX4_find 31 = .ok (.aload_n 0, 1) := by decide +kernel
theorem dX4_find_32 : decode cX4_find 32 = .ok (.getfield 9, 3) := by decide +kernel
theorem dX4_find_35 : decode cX4_find 35 = .ok (.aload_n 0, 1) := by decide +kernel
theorem dX4_find_36 : decode cX4_find 36 = .ok (.getfield 28, 3) := by decide +kernel
theorem dX4_find_39 : decode cX4_find 39 = .ok (.aload_n 0, 1) := by decide +kernel
theorem dX4_find_40 : decode cX4_find 40 = .ok (.getfield 18, 3) := by decide +kernel
theorem dX4_find_43 : decode cX4_find 43 = .ok (.iload_n 3, 1) := by decide +kernel
theorem dX4_find_44 : decode cX4_find 44 = .ok (.laload, 1) := by decide +kernel
theorem dX4_find_45 : decode cX4_find 45 = .ok (.lastore, 1) := by decide +kernel
theorem dX4_find_46 : decode cX4_find 46 = .ok (.aload_n 0, 1) := by decide +kernel
theorem dX4_find_47 : decode cX4_find 47 = .ok (.getfield 15, 3) := by decide +kernel
theorem dX4_find_50 : decode cX4_find 50 = .ok (.aload_n 0, 1) := by decide +kernel
theorem dX4_find_51 : decode cX4_find 51 = .ok (.getfield 28, 3) := by decide +kernel
theorem dX4_find_54 : decode cX4_find 54 = .ok (.aload_n 0, 1) := by decide +kernel
theorem dX4_find_55 : decode cX4_find 55 = .ok (.getfield 21, 3) := by decide +kernel
theorem dX4_find_58 : decode cX4_find 58 = .ok (.iload_n 3, 1) := by decide +kernel
theorem dX4_find_59 : decode cX4_find 59 = .ok (.laload, 1) := by decide +kernel
theorem dX4_find_60 : decode cX4_find 60 = .ok (.lastore, 1) := by decide +kernel
theorem dX4_find_61 : decode cX4_find 61 = .ok (.aload_n 0, 1) := by decide +kernel
theorem dX4_find_62 : decode cX4_find 62 = .ok (.aload_n 0, 1) := by decide +kernel
theorem dX4_find_63 : decode cX4_find 63 = .ok (.getfield 18, 3) := by decide +kernel
theorem dX4_find_66 : decode cX4_find 66 = .ok (.iload_n 3, 1) := by decide +kernel
theorem dX4_find_67 : decode cX4_find 67 = .ok (.laload, 1) := by decide +kernel
theorem dX4_find_68 : decode cX4_find 68 = .ok (.invokevirtual 36, 3) := by decide +kernel
theorem dX4_find_71 : decode cX4_find 71 = .ok (.aload_n 0, 1) := by decide +kernel
theorem dX4_find_72 : decode cX4_find 72 = .ok (.dup, 1) := by decide +kernel
theorem dX4_find_73 : decode cX4_find 73 = .ok (.getfield 28, 3) := by decide +kernel
theorem dX4_find_76 : decode cX4_find 76 = .ok (.iconst 1, 1) := by decide +kernel
theorem dX4_find_77 : decode cX4_find 77 = .ok (.iadd, 1) := by decide +kernel
theorem dX4_find_78 : decode cX4_find 78 = .ok (.putfield 28, 3) := by decide +kernel
theorem dX4_find_81 : decode cX4_find 81 = .ok (.goto (-70), 3) := by decide +kernel
theorem dX4_find_84 : decode cX4_find 84 = .ok (.return_, 1) := by decide +kernel
set_option maxRecDepth 20000 in
theorem ggX4_isSumOfLighter_X4_mark : GoodIn wsX4_isSumOfLighter wsX4_mark := goodIn_r _ [7] (by decide +kernel) (by decide +kernel)
set_option maxRecDepth 20000 in
theorem gX4_isSumOfLighter_X4_mark : GoodIn wsX4_isSumOfLighter (va_wsS RX4 40 yX4_mark wsX4_mark) := goodIn_app (goodIn_of _ (by decide +kernel)) ggX4_isSumOfLighter_X4_mark
theorem dX4_isSumOfLighter_0 : decode cX4_isSumOfLighter 0 = .ok (.lload_n 1, 1) := by decide +kernel
theorem dX4_isSumOfLighter_1 : decode cX4_isSumOfLighter 1 = .ok (.lstore 5, 2) := by decide +kernel
theorem dX4_isSumOfLighter_3 : decode cX4_isSumOfLighter 3 = .ok (.iconst 0, 1) := by decide +kernel
theorem dX4_isSumOfLighter_4 : decode cX4_isSumOfLighter 4 = .ok (.istore 7, 2) := by decide +kernel
theorem dX4_isSumOfLighter_6 : decode cX4_isSumOfLighter 6 = .ok (.iload 7, 2) := by decide +kernel
theorem dX4_isSumOfLighter_8 : decode cX4_isSumOfLighter 8 = .ok (.aload_n 0, 1) := by decide +kernel
theorem dX4_isSumOfLighter_9 : decode cX4_isSumOfLighter 9 = .ok (.getfield 28, 3) := by decide +kernel
theorem dX4_isSumOfLighter_12 : decode cX4_isSumOfLighter 12 = .ok (.if_icmp .ge 51, 3) := by decide +kernel
theorem dX4_isSumOfLighter_15 : decode cX4_isSumOfLighter 15 = .ok (.aload_n 0, 1) := by decide +kernel
theorem dX4_isSumOfLighter_16 : decode cX4_isSumOfLighter 16 = .ok (.getfield 15, 3) := by decide +kernel
theorem dX4_isSumOfLighter_19 : decode cX4_isSumOfLighter 19 = .ok (.iload 7, 2) := by decide +kernel
theorem dX4_isSumOfLighter_21 : decode cX4_isSumOfLighter 21 = .ok (.laload, 1) := by decide +kernel
theorem dX4_isSumOfLighter_22 : decode cX4_isSumOfLighter 22 = .ok (.lload_n 3, 1) := by decide +kernel
theorem dX4_isSumOfLighter_23 : decode cX4_isSumOfLighter 23 = .ok (.lcmp, 1) := by decide +kernel
theorem dX4_isSumOfLighter_24 : decode cX4_isSumOfLighter 24 = .ok (.ifCond .ge 33, 3) := by decide +kernel
theorem dX4_isSumOfLighter_27 : decode cX4_isSumOfLighter 27 = .ok (.lload 5, 2) := by decide +kernel
theorem dX4_isSumOfLighter_29 : decode cX4_isSumOfLighter 29 = .ok (.aload_n 0, 1) := by decide +kernel
theorem dX4_isSumOfLighter_30 : decode cX4_isSumOfLighter 30 = .ok (.getfield 9, 3) := by decide +kernel
theorem dX4_isSumOfLighter_33 : decode cX4_isSumOfLighter 33 = .ok (.iload 7, 2) := by decide +kernel
theorem dX4_isSumOfLighter_35 : decode cX4_isSumOfLighter 35 = .ok (.laload, 1) := by decide +kernel
theorem dX4_isSumOfLighter_36 : decode cX4_isSumOfLighter 36 = .ok (.invokestatic 40, 3) := by decide +kernel
theorem dX4_isSumOfLighter_39 : decode cX4_isSumOfLighter 39 = .ok (.land, 1) := by decide +kernel
theorem dX4_isSumOfLighter_40 : decode cX4_isSumOfLighter 40 = .ok (.lconst 0, 1) := by decide +kernel
theorem dX4_isSumOfLighter_41 : decode cX4_isSumOfLighter 41 = .ok (.lcmp, 1) := by decide +kernel
theorem dX4_isSumOfLighter_42 : decode cX4_isSumOfLighter 42 = .ok (.ifCond .eq 15, 3) := by decide +kernel
theorem dX4_isSumOfLighter_45 : decode cX4_isSumOfLighter 45 = .ok (.lload 5, 2) := by decide +kernel
theorem dX4_isSumOfLighter_47 : decode cX4_isSumOfLighter 47 = .ok (.aload_n 0, 1) := by decide +kernel
theorem dX4_isSumOfLighter_48 : decode cX4_isSumOfLighter 48 = .ok (.getfield 9, 3) := by decide +kernel
theorem dX4_isSumOfLighter_51 : decode cX4_isSumOfLighter 51 = .ok (.iload 7, 2) := by decide +kernel
theorem dX4_isSumOfLighter_53 : decode cX4_isSumOfLighter 53 = .ok (.laload, 1) := by decide +kernel
theorem dX4_isSumOfLighter_54 : decode cX4_isSumOfLighter 54 = .ok (.lxor, 1) := by decide +kernel
theorem dX4_isSumOfLighter_55 : decode cX4_isSumOfLighter 55 = .ok (.lstore 5, 2) := by decide +kernel
theorem dX4_isSumOfLighter_57 : decode cX4_isSumOfLighter 57 = .ok (.iinc 7 1, 3) := by decide +kernel
theorem dX4_isSumOfLighter_60 : decode cX4_isSumOfLighter 60 = .ok (.goto (-54), 3) := by decide +kernel
theorem dX4_isSumOfLighter_63 : decode cX4_isSumOfLighter 63 = .ok (.lload 5, 2) := by decide +kernel
theorem dX4_isSumOfLighter_65 : decode cX4_isSumOfLighter 65 = .ok (.lconst 0, 1) := by decide +kernel
theorem dX4_isSumOfLighter_66 : decode cX4_isSumOfLighter 66 = .ok (.lcmp, 1) := by decide +kernel
theorem dX4_isSumOfLighter_67 : decode cX4_isSumOfLighter 67 = .ok (.ifCond .ne 7, 3) := by decide +kernel
theorem dX4_isSumOfLighter_70 : decode cX4_isSumOfLighter 70 = .ok (.iconst 1, 1) := by decide +kernel
theorem dX4_isSumOfLighter_71 : decode cX4_isSumOfLighter 71 = .ok (.goto 4, 3) := by decide +kernel
theorem dX4_isSumOfLighter_74 : decode cX4_isSumOfLighter 74 = .ok (.iconst 0, 1) := by decide +kernel
theorem dX4_isSumOfLighter_75 : decode cX4_isSumOfLighter 75 = .ok (.ireturn, 1) := by decide +kernel
set_option maxRecDepth 20000 in
theorem ggX4_gatherAll_X6_seek : GoodIn wsX4_gatherAll wsX6_seek := goodIn_r _ [6, 7, 8, 9, 10, 11, 12, 5, 13, 14, 15, 16, 17, 35, 36, 37, 38, 39, 40, 41] (by decide +kernel) (by decide +kernel)
set_option maxRecDepth 20000 in
theorem gX4_gatherAll_X6_seek : GoodIn wsX4_gatherAll (wsV RX4 52 RX6 yX6_seek wsX6_seek) := goodIn_app (goodIn_of _ (by decide +kernel)) ggX4_gatherAll_X6_seek
set_option maxRecDepth 20000 in
theorem ggX4_gatherAll_X4_gather : GoodIn wsX4_gatherAll wsX4_gather := goodIn_r _ [22, 23, 1, 24, 25, 26, 27, 5, 28, 7, 8, 35, 36, 37, 38, 39, 40, 41, 29, 30, 31, 32, 33, 34] (by decide +kernel) (by decide +kernel)
set_option maxRecDepth 20000 in
theorem gX4_gatherAll_X4_gather : GoodIn wsX4_gatherAll (wsV RX4 61 RX4 yX4_gather wsX4_gather) := goodIn_app (goodIn_of _ (by decide +kernel)) ggX4_gatherAll_X4_gather
theorem dX4_gatherAll_0 : decode cX4_gatherAll 0 = .ok (.aload_n 0, 1) := by decide +kernel
theorem dX4_gatherAll_1 : decode cX4_gatherAll 1 = .ok (.iconst 0, 1) := by decide +kernel
theorem dX4_gatherAll_2 : decode cX4_gatherAll 2 = .ok (.putfield 44, 3) := by decide +kernel
theorem dX4_gatherAll_5 : decode cX4_gatherAll 5 = .ok (.iconst 0, 1) := by decide +kernel
theorem dX4_gatherAll_6 : decode cX4_gatherAll 6 = .ok (.istore_n 3, 1) := by decide +kernel
theorem dX4_gatherAll_7 : decode cX4_gatherAll 7 = .ok (.iload_n 3, 1) := by decide +kernel
theorem dX4_gatherAll_8 : decode cX4_gatherAll 8 = .ok (.aload_n 1, 1) := by decide +kernel
theorem dX4_gatherAll_9 : decode cX4_gatherAll 9 = .ok (.getfield 47, 3) := by decide +kernel
theorem dX4_gatherAll_12 : decode cX4_gatherAll 12 = .ok (.if_icmp .ge 42, 3) := by decide +kernel
theorem dX4_gatherAll_15 : decode cX4_gatherAll 15 = .ok (.aload_n 2, 1) := by decide +kernel
theorem dX4_gatherAll_16 : decode cX4_gatherAll 16 = .ok (.aload_n 1, 1) := by decide +kernel
theorem dX4_gatherAll_17 : decode cX4_gatherAll 17 = .ok (.iload_n 3, 1) := by decide +kernel
theorem dX4_gatherAll_18 : decode cX4_gatherAll 18 = .ok (.iconst (-1), 1) := by decide +kernel
theorem dX4_gatherAll_19 : decode cX4_gatherAll 19 = .ok (.invokevirtual 52, 3) := by decide +kernel
theorem dX4_gatherAll_22 : decode cX4_gatherAll 22 = .ok (.iconst 0, 1) := by decide +kernel
theorem dX4_gatherAll_23 : decode cX4_gatherAll 23 = .ok (.istore 4, 2) := by decide +kernel
theorem dX4_gatherAll_25 : decode cX4_gatherAll 25 = .ok (.iload 4, 2) := by decide +kernel
theorem dX4_gatherAll_27 : decode cX4_gatherAll 27 = .ok (.aload_n 1, 1) := by decide +kernel
theorem dX4_gatherAll_28 : decode cX4_gatherAll 28 = .ok (.getfield 58, 3) := by decide +kernel
theorem dX4_gatherAll_31 : decode cX4_gatherAll 31 = .ok (.if_icmp .ge 17, 3) := by decide +kernel
theorem dX4_gatherAll_34 : decode cX4_gatherAll 34 = .ok (.aload_n 0, 1) := by decide +kernel
theorem dX4_gatherAll_35 : decode cX4_gatherAll 35 = .ok (.aload_n 1, 1) := by decide +kernel
theorem dX4_gatherAll_36 : decode cX4_gatherAll 36 = .ok (.aload_n 2, 1) := by decide +kernel
theorem dX4_gatherAll_37 : decode cX4_gatherAll 37 = .ok (.iload 4, 2) := by decide +kernel
theorem dX4_gatherAll_39 : decode cX4_gatherAll 39 = .ok (.invokevirtual 61, 3) := by decide +kernel
theorem dX4_gatherAll_42 : decode cX4_gatherAll 42 = .ok (.iinc 4 1, 3) := by decide +kernel
theorem dX4_gatherAll_45 : decode cX4_gatherAll 45 = .ok (.goto (-20), 3) := by decide +kernel
theorem dX4_gatherAll_48 : decode cX4_gatherAll 48 = .ok (.iinc 3 1, 3) := by decide +kernel
theorem dX4_gatherAll_51 : decode cX4_gatherAll 51 = .ok (.goto (-44), 3) := by decide +kernel
theorem dX4_gatherAll_54 : decode cX4_gatherAll 54 = .ok (.return_, 1) := by decide +kernel
set_option maxRecDepth 20000 in
theorem ggX4_gather_X6_reaches : GoodIn wsX4_gather wsX6_reaches := goodIn_r _ [8, 9, 10, 16, 17] (by decide +kernel) (by decide +kernel)
set_option maxRecDepth 20000 in
theorem gX4_gather_X6_reaches : GoodIn wsX4_gather (wsV RX4 75 RX6 yX6_reaches wsX6_reaches) := goodIn_app (goodIn_of _ (by decide +kernel)) ggX4_gather_X6_reaches
theorem dX4_gather_0 : decode cX4_gather 0 = .ok (.aload_n 1, 1) := by decide +kernel
theorem dX4_gather_1 : decode cX4_gather 1 = .ok (.getfield 65, 3) := by decide +kernel
theorem dX4_gather_4 : decode cX4_gather 4 = .ok (.iload_n 3, 1) := by decide +kernel
theorem dX4_gather_5 : decode cX4_gather 5 = .ok (.iaload, 1) := by decide +kernel
theorem dX4_gather_6 : decode cX4_gather 6 = .ok (.istore 4, 2) := by decide +kernel
theorem dX4_gather_8 : decode cX4_gather 8 = .ok (.aload_n 1, 1) := by decide +kernel
theorem dX4_gather_9 : decode cX4_gather 9 = .ok (.getfield 69, 3) := by decide +kernel
theorem dX4_gather_12 : decode cX4_gather 12 = .ok (.iload_n 3, 1) := by decide +kernel
theorem dX4_gather_13 : decode cX4_gather 13 = .ok (.iaload, 1) := by decide +kernel
theorem dX4_gather_14 : decode cX4_gather 14 = .ok (.istore 5, 2) := by decide +kernel
theorem dX4_gather_16 : decode cX4_gather 16 = .ok (.aload_n 2, 1) := by decide +kernel
theorem dX4_gather_17 : decode cX4_gather 17 = .ok (.getfield 72, 3) := by decide +kernel
theorem dX4_gather_20 : decode cX4_gather 20 = .ok (.iload 4, 2) := by decide +kernel
theorem dX4_gather_22 : decode cX4_gather 22 = .ok (.laload, 1) := by decide +kernel
theorem dX4_gather_23 : decode cX4_gather 23 = .ok (.aload_n 2, 1) := by decide +kernel
theorem dX4_gather_24 : decode cX4_gather 24 = .ok (.getfield 72, 3) := by decide +kernel
theorem dX4_gather_27 : decode cX4_gather 27 = .ok (.iload 5, 2) := by decide +kernel
theorem dX4_gather_29 : decode cX4_gather 29 = .ok (.laload, 1) := by decide +kernel
theorem dX4_gather_30 : decode cX4_gather 30 = .ok (.lxor, 1) := by decide +kernel
theorem dX4_gather_31 : decode cX4_gather 31 = .ok (.lconst 1, 1) := by decide +kernel
theorem dX4_gather_32 : decode cX4_gather 32 = .ok (.iload_n 3, 1) := by decide +kernel
theorem dX4_gather_33 : decode cX4_gather 33 = .ok (.lshl, 1) := by decide +kernel
theorem dX4_gather_34 : decode cX4_gather 34 = .ok (.lxor, 1) := by decide +kernel
theorem dX4_gather_35 : decode cX4_gather 35 = .ok (.lstore 6, 2) := by decide +kernel
theorem dX4_gather_37 : decode cX4_gather 37 = .ok (.aload_n 2, 1) := by decide +kernel
theorem dX4_gather_38 : decode cX4_gather 38 = .ok (.iload 4, 2) := by decide +kernel
theorem dX4_gather_40 : decode cX4_gather 40 = .ok (.invokevirtual 75, 3) := by decide +kernel
theorem dX4_gather_43 : decode cX4_gather 43 = .ok (.ifCond .eq 63, 3) := by decide +kernel
theorem dX4_gather_46 : decode cX4_gather 46 = .ok (.lload 6, 2) := by decide +kernel
theorem dX4_gather_48 : decode cX4_gather 48 = .ok (.lconst 0, 1) := by decide +kernel
theorem dX4_gather_49 : decode cX4_gather 49 = .ok (.lcmp, 1) := by decide +kernel
theorem dX4_gather_50 : decode cX4_gather 50 = .ok (.ifCond .eq 56, 3) := by decide +kernel
theorem dX4_gather_53 : decode cX4_gather 53 = .ok (.aload_n 0, 1) := by decide +kernel
theorem dX4_gather_54 : decode cX4_gather 54 = .ok (.getfield 18, 3) := by decide +kernel
theorem dX4_gather_57 : decode cX4_gather 57 = .ok (.aload_n 0, 1) := by decide +kernel
theorem dX4_gather_58 : decode cX4_gather 58 = .ok (.getfield 44, 3) := by decide +kernel
theorem dX4_gather_61 : decode cX4_gather 61 = .ok (.lload 6, 2) := by decide +kernel
theorem dX4_gather_63 : decode cX4_gather 63 = .ok (.lastore, 1) := by decide +kernel
theorem dX4_gather_64 : decode cX4_gather 64 = .ok (.aload_n 0, 1) := by decide +kernel
theorem dX4_gather_65 : decode cX4_gather 65 = .ok (.getfield 21, 3) := by decide +kernel
theorem dX4_gather_68 : decode cX4_gather 68 = .ok (.aload_n 0, 1) := by decide +kernel
theorem dX4_gather_69 : decode cX4_gather 69 = .ok (.getfield 44, 3) := by decide +kernel
theorem dX4_gather_72 : decode cX4_gather 72 = .ok (.aload_n 2, 1) := by decide +kernel
theorem dX4_gather_73 : decode cX4_gather 73 = .ok (.getfield 79, 3) := by decide +kernel
theorem dX4_gather_76 : decode cX4_gather 76 = .ok (.iload 4, 2) := by decide +kernel
theorem dX4_gather_78 : decode cX4_gather 78 = .ok (.laload, 1) := by decide +kernel
theorem dX4_gather_79 : decode cX4_gather 79 = .ok (.aload_n 2, 1) := by decide +kernel
theorem dX4_gather_80 : decode cX4_gather 80 = .ok (.getfield 79, 3) := by decide +kernel
theorem dX4_gather_83 : decode cX4_gather 83 = .ok (.iload 5, 2) := by decide +kernel
theorem dX4_gather_85 : decode cX4_gather 85 = .ok (.laload, 1) := by decide +kernel
theorem dX4_gather_86 : decode cX4_gather 86 = .ok (.ladd, 1) := by decide +kernel
theorem dX4_gather_87 : decode cX4_gather 87 = .ok (.aload_n 1, 1) := by decide +kernel
theorem dX4_gather_88 : decode cX4_gather 88 = .ok (.getfield 82, 3) := by decide +kernel
theorem dX4_gather_91 : decode cX4_gather 91 = .ok (.iload_n 3, 1) := by decide +kernel
theorem dX4_gather_92 : decode cX4_gather 92 = .ok (.iaload, 1) := by decide +kernel
theorem dX4_gather_93 : decode cX4_gather 93 = .ok (.i2l, 1) := by decide +kernel
theorem dX4_gather_94 : decode cX4_gather 94 = .ok (.ladd, 1) := by decide +kernel
theorem dX4_gather_95 : decode cX4_gather 95 = .ok (.lastore, 1) := by decide +kernel
theorem dX4_gather_96 : decode cX4_gather 96 = .ok (.aload_n 0, 1) := by decide +kernel
theorem dX4_gather_97 : decode cX4_gather 97 = .ok (.dup, 1) := by decide +kernel
theorem dX4_gather_98 : decode cX4_gather 98 = .ok (.getfield 44, 3) := by decide +kernel
theorem dX4_gather_101 : decode cX4_gather 101 = .ok (.iconst 1, 1) := by decide +kernel
theorem dX4_gather_102 : decode cX4_gather 102 = .ok (.iadd, 1) := by decide +kernel
theorem dX4_gather_103 : decode cX4_gather 103 = .ok (.putfield 44, 3) := by decide +kernel
theorem dX4_gather_106 : decode cX4_gather 106 = .ok (.return_, 1) := by decide +kernel
theorem dX4_lightestLeft_0 : decode cX4_lightestLeft 0 = .ok (.iconst (-1), 1) := by decide +kernel
theorem dX4_lightestLeft_1 : decode cX4_lightestLeft 1 = .ok (.istore_n 1, 1) := by decide +kernel
theorem dX4_lightestLeft_2 : decode cX4_lightestLeft 2 = .ok (.iconst 0, 1) := by decide +kernel
theorem dX4_lightestLeft_3 : decode cX4_lightestLeft 3 = .ok (.istore_n 2, 1) := by decide +kernel
theorem dX4_lightestLeft_4 : decode cX4_lightestLeft 4 = .ok (.iload_n 2, 1) := by decide +kernel
theorem dX4_lightestLeft_5 : decode cX4_lightestLeft 5 = .ok (.aload_n 0, 1) := by decide +kernel
theorem dX4_lightestLeft_6 : decode cX4_lightestLeft 6 = .ok (.getfield 44, 3) := by decide +kernel
theorem dX4_lightestLeft_9 : decode cX4_lightestLeft 9 = .ok (.if_icmp .ge 43, 3) := by decide +kernel
theorem dX4_lightestLeft_12 : decode cX4_lightestLeft 12 = .ok (.aload_n 0, 1) := by decide +kernel
theorem dX4_lightestLeft_13 : decode cX4_lightestLeft 13 = .ok (.getfield 18, 3) := by decide +kernel
theorem dX4_lightestLeft_16 : decode cX4_lightestLeft 16 = .ok (.iload_n 2, 1) := by decide +kernel
theorem dX4_lightestLeft_17 : decode cX4_lightestLeft 17 = .ok (.laload, 1) := by decide +kernel
theorem dX4_lightestLeft_18 : decode cX4_lightestLeft 18 = .ok (.lconst 0, 1) := by decide +kernel
theorem dX4_lightestLeft_19 : decode cX4_lightestLeft 19 = .ok (.lcmp, 1) := by decide +kernel
theorem dX4_lightestLeft_20 : decode cX4_lightestLeft 20 = .ok (.ifCond .eq 26, 3) := by decide +kernel
theorem dX4_lightestLeft_23 : decode cX4_lightestLeft 23 = .ok (.iload_n 1, 1) := by decide +kernel
theorem dX4_lightestLeft_24 : decode cX4_lightestLeft 24 = .ok (.iconst (-1), 1) := by decide +kernel
theorem dX4_lightestLeft_25 : decode cX4_lightestLeft 25 = .ok (.if_icmp .eq 19, 3) := by decide +kernel
theorem dX4_lightestLeft_28 : decode cX4_lightestLeft 28 = .ok (.aload_n 0, 1) := by decide +kernel
theorem dX4_lightestLeft_29 : decode cX4_lightestLeft 29 = .ok (.getfield 21, 3) := by decide +kernel
theorem dX4_lightestLeft_32 : decode cX4_lightestLeft 32 = .ok (.iload_n 2, 1) := by decide +kernel
theorem dX4_lightestLeft_33 : decode cX4_lightestLeft 33 = .ok (.laload, 1) := by decide +kernel
theorem dX4_lightestLeft_34 : decode cX4_lightestLeft 34 = .ok (.aload_n 0, 1) := by decide +kernel
theorem dX4_lightestLeft_35 : decode cX4_lightestLeft 35 = .ok (.getfield 21, 3) := by decide +kernel
theorem dX4_lightestLeft_38 : decode cX4_lightestLeft 38 = .ok (.iload_n 1, 1) := by decide +kernel
theorem dX4_lightestLeft_39 : decode cX4_lightestLeft 39 = .ok (.laload, 1) := by decide +kernel
theorem dX4_lightestLeft_40 : decode cX4_lightestLeft 40 = .ok (.lcmp, 1) := by decide +kernel
theorem dX4_lightestLeft_41 : decode cX4_lightestLeft 41 = .ok (.ifCond .ge 5, 3) := by decide +kernel
theorem dX4_lightestLeft_44 : decode cX4_lightestLeft 44 = .ok (.iload_n 2, 1) := by decide +kernel
theorem dX4_lightestLeft_45 : decode cX4_lightestLeft 45 = .ok (.istore_n 1, 1) := by decide +kernel
theorem dX4_lightestLeft_46 : decode cX4_lightestLeft 46 = .ok (.iinc 2 1, 3) := by decide +kernel
theorem dX4_lightestLeft_49 : decode cX4_lightestLeft 49 = .ok (.goto (-45), 3) := by decide +kernel
theorem dX4_lightestLeft_52 : decode cX4_lightestLeft 52 = .ok (.iload_n 1, 1) := by decide +kernel
theorem dX4_lightestLeft_53 : decode cX4_lightestLeft 53 = .ok (.ireturn, 1) := by decide +kernel
set_option maxRecDepth 20000 in
theorem ggX4_strike_X4_mark : GoodIn wsX4_strike wsX4_mark := goodIn_r _ [6] (by decide +kernel) (by decide +kernel)
set_option maxRecDepth 20000 in
theorem gX4_strike_X4_mark : GoodIn wsX4_strike (va_wsS RX4 40 yX4_mark wsX4_mark) := goodIn_app (goodIn_of _ (by decide +kernel)) ggX4_strike_X4_mark
theorem dX4_strike_0 : decode cX4_strike 0 = .ok (.iconst 0, 1) := by decide +kernel
theorem dX4_strike_1 : decode cX4_strike 1 = .ok (.istore_n 3, 1) := by decide +kernel
theorem dX4_strike_2 : decode cX4_strike 2 = .ok (.iload_n 3, 1) := by decide +kernel
theorem dX4_strike_3 : decode cX4_strike 3 = .ok (.aload_n 0, 1) := by decide +kernel
theorem dX4_strike_4 : decode cX4_strike 4 = .ok (.getfield 44, 3) := by decide +kernel
theorem dX4_strike_7 : decode cX4_strike 7 = .ok (.if_icmp .ge 35, 3) := by decide +kernel
theorem dX4_strike_10 : decode cX4_strike 10 = .ok (.aload_n 0, 1) := by decide +kernel
theorem dX4_strike_11 : decode cX4_strike 11 = .ok (.getfield 18, 3) := by decide +kernel
theorem dX4_strike_14 : decode cX4_strike 14 = .ok (.iload_n 3, 1) := by decide +kernel
theorem dX4_strike_15 : decode cX4_strike 15 = .ok (.laload, 1) := by decide +kernel
theorem dX4_strike_16 : decode cX4_strike 16 = .ok (.lload_n 1, 1) := by decide +kernel
theorem dX4_strike_17 : decode cX4_strike 17 = .ok (.invokestatic 40, 3) := by decide +kernel
theorem dX4_strike_20 : decode cX4_strike 20 = .ok (.land, 1) := by decide +kernel
theorem dX4_strike_21 : decode cX4_strike 21 = .ok (.lconst 0, 1) := by decide +kernel
theorem dX4_strike_22 : decode cX4_strike 22 = .ok (.lcmp, 1) := by decide +kernel
theorem dX4_strike_23 : decode cX4_strike 23 = .ok (.ifCond .eq 13, 3) := by decide +kernel
theorem dX4_strike_26 : decode cX4_strike 26 = .ok (.aload_n 0, 1) := by decide +kernel
theorem dX4_strike_27 : decode cX4_strike 27 = .ok (.getfield 18, 3) := by decide +kernel
theorem dX4_strike_30 : decode cX4_strike 30 = .ok (.iload_n 3, 1) := by decide +kernel
theorem dX4_strike_31 : decode cX4_strike 31 = .ok (.dup2, 1) := by decide +kernel
theorem dX4_strike_32 : decode cX4_strike 32 = .ok (.laload, 1) := by decide +kernel
theorem dX4_strike_33 : decode cX4_strike 33 = .ok (.lload_n 1, 1) := by decide +kernel
theorem dX4_strike_34 : decode cX4_strike 34 = .ok (.lxor, 1) := by decide +kernel
theorem dX4_strike_35 : decode cX4_strike 35 = .ok (.lastore, 1) := by decide +kernel
theorem dX4_strike_36 : decode cX4_strike 36 = .ok (.iinc 3 1, 3) := by decide +kernel
theorem dX4_strike_39 : decode cX4_strike 39 = .ok (.goto (-37), 3) := by decide +kernel
theorem dX4_strike_42 : decode cX4_strike 42 = .ok (.return_, 1) := by decide +kernel
theorem dX4_mark_0 : decode cX4_mark 0 = .ok (.lload_n 0, 1) := by decide +kernel
theorem dX4_mark_1 : decode cX4_mark 1 = .ok (.lload_n 0, 1) := by decide +kernel
theorem dX4_mark_2 : decode cX4_mark 2 = .ok (.lneg, 1) := by decide +kernel
theorem dX4_mark_3 : decode cX4_mark 3 = .ok (.land, 1) := by decide +kernel
theorem dX4_mark_4 : decode cX4_mark 4 = .ok (.lreturn, 1) := by decide +kernel
theorem dX5_init_0 : decode cX5_init 0 = .ok (.aload_n 0, 1) := by decide +kernel
theorem dX5_init_1 : decode cX5_init 1 = .ok (.invokespecial 3, 3) := by decide +kernel
theorem dX5_init_4 : decode cX5_init 4 = .ok (.aload_n 0, 1) := by decide +kernel
theorem dX5_init_5 : decode cX5_init 5 = .ok (.bipush 40, 2) := by decide +kernel
theorem dX5_init_7 : decode cX5_init 7 = .ok (.newarray .long, 2) := by decide +kernel
theorem dX5_init_9 : decode cX5_init 9 = .ok (.putfield 9, 3) := by decide +kernel
theorem dX5_init_12 : decode cX5_init 12 = .ok (.return_, 1) := by decide +kernel
set_option maxRecDepth 20000 in
theorem ggX5_append_X5_rest : GoodIn wsX5_append wsX5_rest := goodIn_r _ [8, 1, 9, 10, 11, 21, 22, 23] (by decide +kernel) (by decide +kernel)
set_option maxRecDepth 20000 in
theorem gX5_append_X5_rest : GoodIn wsX5_append (wsV RX5 15 RX5 yX5_rest wsX5_rest) := goodIn_app (goodIn_of _ (by decide +kernel)) ggX5_append_X5_rest
set_option maxRecDepth 20000 in
theorem ggX5_append_J13_numberOfTrailingZeros_95d88 : GoodIn wsX5_append wsJ13_numberOfTrailingZeros_95d88 := goodIn_r _ [15, 16, 17, 18, 19, 20] (by decide +kernel) (by decide +kernel)
set_option maxRecDepth 20000 in
theorem gX5_append_J13_numberOfTrailingZeros_95d88 : GoodIn wsX5_append (va_wsS RX5 19 yJ13_numberOfTrailingZeros_95d88 wsJ13_numberOfTrailingZeros_95d88) := goodIn_app (goodIn_of _ (by decide +kernel)) ggX5_append_J13_numberOfTrailingZeros_95d88
theorem dX5_append_0 : decode cX5_append 0 = .ok (.aload_n 0, 1) := by decide +kernel
theorem dX5_append_1 : decode cX5_append 1 = .ok (.lload_n 1, 1) := by decide +kernel
theorem dX5_append_2 : decode cX5_append 2 = .ok (.invokevirtual 15, 3) := by decide +kernel
theorem dX5_append_5 : decode cX5_append 5 = .ok (.lstore_n 3, 1) := by decide +kernel
theorem dX5_append_6 : decode cX5_append 6 = .ok (.lload_n 3, 1) := by decide +kernel
theorem dX5_append_7 : decode cX5_append 7 = .ok (.lconst 0, 1) := by decide +kernel
theorem dX5_append_8 : decode cX5_append 8 = .ok (.lcmp, 1) := by decide +kernel
theorem dX5_append_9 : decode cX5_append 9 = .ok (.ifCond .eq 23, 3) := by decide +kernel
theorem dX5_append_12 : decode cX5_append 12 = .ok (.aload_n 0, 1) := by decide +kernel
theorem dX5_append_13 : decode cX5_append 13 = .ok (.getfield 9, 3) := by decide +kernel
theorem dX5_append_16 : decode cX5_append 16 = .ok (.lload_n 3, 1) := by decide +kernel
theorem dX5_append_17 : decode cX5_append 17 = .ok (.invokestatic 19, 3) := by decide +kernel
theorem dX5_append_20 : decode cX5_append 20 = .ok (.lload_n 3, 1) := by decide +kernel
theorem dX5_append_21 : decode cX5_append 21 = .ok (.lastore, 1) := by decide +kernel
theorem dX5_append_22 : decode cX5_append 22 = .ok (.aload_n 0, 1) := by decide +kernel
theorem dX5_append_23 : decode cX5_append 23 = .ok (.dup, 1) := by decide +kernel
theorem dX5_append_24 : decode cX5_append 24 = .ok (.getfield 25, 3) := by decide +kernel
theorem dX5_append_27 : decode cX5_append 27 = .ok (.iconst 1, 1) := by decide +kernel
theorem dX5_append_28 : decode cX5_append 28 = .ok (.iadd, 1) := by decide +kernel
theorem dX5_append_29 : decode cX5_append 29 = .ok (.putfield 25, 3) := by decide +kernel
theorem dX5_append_32 : decode cX5_append 32 = .ok (.aload_n 0, 1) := by decide +kernel
theorem dX5_append_33 : decode cX5_append 33 = .ok (.dup, 1) := by decide +kernel
theorem dX5_append_34 : decode cX5_append 34 = .ok (.getfield 29, 3) := by decide +kernel
theorem dX5_append_37 : decode cX5_append 37 = .ok (.iconst 1, 1) := by decide +kernel
theorem dX5_append_38 : decode cX5_append 38 = .ok (.iadd, 1) := by decide +kernel
theorem dX5_append_39 : decode cX5_append 39 = .ok (.putfield 29, 3) := by decide +kernel
theorem dX5_append_42 : decode cX5_append 42 = .ok (.aload_n 0, 1) := by decide +kernel
theorem dX5_append_43 : decode cX5_append 43 = .ok (.getfield 29, 3) := by decide +kernel
theorem dX5_append_46 : decode cX5_append 46 = .ok (.ireturn, 1) := by decide +kernel
set_option maxRecDepth 20000 in
theorem ggX5_empty_J7_fill_d0a16 : GoodIn wsX5_empty wsJ7_fill_d0a16 := goodIn_r _ [7] (by decide +kernel) (by decide +kernel)
set_option maxRecDepth 20000 in
theorem gX5_empty_J7_fill_d0a16 : GoodIn wsX5_empty (va_wsS RX5 32 yJ7_fill_d0a16 wsJ7_fill_d0a16) := goodIn_app (goodIn_of _ (by decide +kernel)) ggX5_empty_J7_fill_d0a16
theorem dX5_empty_0 : decode cX5_empty 0 = .ok (.aload_n 0, 1) := by decide +kernel
theorem dX5_empty_1 : decode cX5_empty 1 = .ok (.iconst 0, 1) := by decide +kernel
theorem dX5_empty_2 : decode cX5_empty 2 = .ok (.putfield 29, 3) := by decide +kernel
theorem dX5_empty_5 : decode cX5_empty 5 = .ok (.aload_n 0, 1) := by decide +kernel
theorem dX5_empty_6 : decode cX5_empty 6 = .ok (.iconst 0, 1) := by decide +kernel
theorem dX5_empty_7 : decode cX5_empty 7 = .ok (.putfield 25, 3) := by decide +kernel
theorem dX5_empty_10 : decode cX5_empty 10 = .ok (.aload_n 0, 1) := by decide +kernel
theorem dX5_empty_11 : decode cX5_empty 11 = .ok (.getfield 9, 3) := by decide +kernel
theorem dX5_empty_14 : decode cX5_empty 14 = .ok (.lconst 0, 1) := by decide +kernel
theorem dX5_empty_15 : decode cX5_empty 15 = .ok (.invokestatic 32, 3) := by decide +kernel
theorem dX5_empty_18 : decode cX5_empty 18 = .ok (.return_, 1) := by decide +kernel
set_option maxRecDepth 20000 in
theorem ggX5_rest_X7_has : GoodIn wsX5_rest wsX7_has := goodIn_r _ [4] (by decide +kernel) (by decide +kernel)
set_option maxRecDepth 20000 in
theorem gX5_rest_X7_has_n38 : GoodIn wsX5_rest (wsX7_has) := ggX5_rest_X7_has
theorem dX5_rest_0 : decode cX5_rest 0 = .ok (.lload_n 1, 1) := by decide +kernel
theorem dX5_rest_1 : decode cX5_rest 1 = .ok (.lstore_n 3, 1) := by decide +kernel
theorem dX5_rest_2 : decode cX5_rest 2 = .ok (.iconst 0, 1) := by decide +kernel
theorem dX5_rest_3 : decode cX5_rest 3 = .ok (.istore 5, 2) := by decide +kernel
theorem dX5_rest_5 : decode cX5_rest 5 = .ok (.iload 5, 2) := by decide +kernel
theorem dX5_rest_7 : decode cX5_rest 7 = .ok (.bipush 40, 2) := by decide +kernel
theorem dX5_rest_9 : decode cX5_rest 9 = .ok (.if_icmp .ge 28, 3) := by decide +kernel
theorem dX5_rest_12 : decode cX5_rest 12 = .ok (.lload_n 3, 1) := by decide +kernel
theorem dX5_rest_13 : decode cX5_rest 13 = .ok (.iload 5, 2) := by decide +kernel
theorem dX5_rest_15 : decode cX5_rest 15 = .ok (.invokestatic 38, 3) := by decide +kernel
theorem dX5_rest_18 : decode cX5_rest 18 = .ok (.ifCond .eq 13, 3) := by decide +kernel
theorem dX5_rest_21 : decode cX5_rest 21 = .ok (.lload_n 3, 1) := by decide +kernel
theorem dX5_rest_22 : decode cX5_rest 22 = .ok (.aload_n 0, 1) := by decide +kernel
theorem dX5_rest_23 : decode cX5_rest 23 = .ok (.getfield 9, 3) := by decide +kernel
theorem dX5_rest_26 : decode cX5_rest 26 = .ok (.iload 5, 2) := by decide +kernel
theorem dX5_rest_28 : decode cX5_rest 28 = .ok (.laload, 1) := by decide +kernel
theorem dX5_rest_29 : decode cX5_rest 29 = .ok (.lxor, 1) := by decide +kernel
theorem dX5_rest_30 : decode cX5_rest 30 = .ok (.lstore_n 3, 1) := by decide +kernel
theorem dX5_rest_31 : decode cX5_rest 31 = .ok (.iinc 5 1, 3) := by decide +kernel
theorem dX5_rest_34 : decode cX5_rest 34 = .ok (.goto (-29), 3) := by decide +kernel
theorem dX5_rest_37 : decode cX5_rest 37 = .ok (.lload_n 3, 1) := by decide +kernel
theorem dX5_rest_38 : decode cX5_rest 38 = .ok (.lreturn, 1) := by decide +kernel
theorem dX6_init_0 : decode cX6_init 0 = .ok (.aload_n 0, 1) := by decide +kernel
theorem dX6_init_1 : decode cX6_init 1 = .ok (.invokespecial 3, 3) := by decide +kernel
theorem dX6_init_4 : decode cX6_init 4 = .ok (.aload_n 0, 1) := by decide +kernel
theorem dX6_init_5 : decode cX6_init 5 = .ok (.bipush 16, 2) := by decide +kernel
theorem dX6_init_7 : decode cX6_init 7 = .ok (.newarray .long, 2) := by decide +kernel
theorem dX6_init_9 : decode cX6_init 9 = .ok (.putfield 9, 3) := by decide +kernel
theorem dX6_init_12 : decode cX6_init 12 = .ok (.aload_n 0, 1) := by decide +kernel
theorem dX6_init_13 : decode cX6_init 13 = .ok (.bipush 16, 2) := by decide +kernel
theorem dX6_init_15 : decode cX6_init 15 = .ok (.newarray .long, 2) := by decide +kernel
theorem dX6_init_17 : decode cX6_init 17 = .ok (.putfield 15, 3) := by decide +kernel
theorem dX6_init_20 : decode cX6_init 20 = .ok (.return_, 1) := by decide +kernel
set_option maxRecDepth 20000 in
theorem ggX6_seek_X6_shortenAll : GoodIn wsX6_seek wsX6_shortenAll := goodIn_r _ [8, 9, 10, 11, 7, 12, 1, 3, 13, 14, 15, 16, 17, 18, 19] (by decide +kernel) (by decide +kernel)
set_option maxRecDepth 20000 in
theorem gX6_seek_X6_shortenAll : GoodIn wsX6_seek (wsV RX6 26 RX6 yX6_shortenAll wsX6_shortenAll) := goodIn_app (goodIn_of _ (by decide +kernel)) ggX6_seek_X6_shortenAll
theorem dX6_seek_0 : decode cX6_seek 0 = .ok (.iconst 0, 1) := by decide +kernel
theorem dX6_seek_1 : decode cX6_seek 1 = .ok (.istore 4, 2) := by decide +kernel
theorem dX6_seek_3 : decode cX6_seek 3 = .ok (.iload 4, 2) := by decide +kernel
theorem dX6_seek_5 : decode cX6_seek 5 = .ok (.aload_n 1, 1) := by decide +kernel
theorem dX6_seek_6 : decode cX6_seek 6 = .ok (.getfield 18, 3) := by decide +kernel
theorem dX6_seek_9 : decode cX6_seek 9 = .ok (.if_icmp .ge 27, 3) := by decide +kernel
theorem dX6_seek_12 : decode cX6_seek 12 = .ok (.aload_n 0, 1) := by decide +kernel
theorem dX6_seek_13 : decode cX6_seek 13 = .ok (.getfield 9, 3) := by decide +kernel
theorem dX6_seek_16 : decode cX6_seek 16 = .ok (.iload 4, 2) := by decide +kernel
theorem dX6_seek_18 : decode cX6_seek 18 = .ok (.ldc2_w 24, 3) := by decide +kernel
theorem dX6_seek_21 : decode cX6_seek 21 = .ok (.lastore, 1) := by decide +kernel
theorem dX6_seek_22 : decode cX6_seek 22 = .ok (.aload_n 0, 1) := by decide +kernel
theorem dX6_seek_23 : decode cX6_seek 23 = .ok (.getfield 15, 3) := by decide +kernel
theorem dX6_seek_26 : decode cX6_seek 26 = .ok (.iload 4, 2) := by decide +kernel
theorem dX6_seek_28 : decode cX6_seek 28 = .ok (.lconst 0, 1) := by decide +kernel
theorem dX6_seek_29 : decode cX6_seek 29 = .ok (.lastore, 1) := by decide +kernel
theorem dX6_seek_30 : decode cX6_seek 30 = .ok (.iinc 4 1, 3) := by decide +kernel
theorem dX6_seek_33 : decode cX6_seek 33 = .ok (.goto (-30), 3) := by decide +kernel
theorem dX6_seek_36 : decode cX6_seek 36 = .ok (.aload_n 0, 1) := by decide +kernel
theorem dX6_seek_37 : decode cX6_seek 37 = .ok (.getfield 9, 3) := by decide +kernel
theorem dX6_seek_40 : decode cX6_seek 40 = .ok (.iload_n 2, 1) := by decide +kernel
theorem dX6_seek_41 : decode cX6_seek 41 = .ok (.lconst 0, 1) := by decide +kernel
theorem dX6_seek_42 : decode cX6_seek 42 = .ok (.lastore, 1) := by decide +kernel
theorem dX6_seek_43 : decode cX6_seek 43 = .ok (.iconst 1, 1) := by decide +kernel
theorem dX6_seek_44 : decode cX6_seek 44 = .ok (.istore 4, 2) := by decide +kernel
theorem dX6_seek_46 : decode cX6_seek 46 = .ok (.iconst 1, 1) := by decide +kernel
theorem dX6_seek_47 : decode cX6_seek 47 = .ok (.istore 5, 2) := by decide +kernel
theorem dX6_seek_49 : decode cX6_seek 49 = .ok (.iload 5, 2) := by decide +kernel
theorem dX6_seek_51 : decode cX6_seek 51 = .ok (.aload_n 1, 1) := by decide +kernel
theorem dX6_seek_52 : decode cX6_seek 52 = .ok (.getfield 18, 3) := by decide +kernel
theorem dX6_seek_55 : decode cX6_seek 55 = .ok (.if_icmp .ge 22, 3) := by decide +kernel
theorem dX6_seek_58 : decode cX6_seek 58 = .ok (.iload 4, 2) := by decide +kernel
theorem dX6_seek_60 : decode cX6_seek 60 = .ok (.ifCond .eq 17, 3) := by decide +kernel
theorem dX6_seek_63 : decode cX6_seek 63 = .ok (.aload_n 0, 1) := by decide +kernel
theorem dX6_seek_64 : decode cX6_seek 64 = .ok (.aload_n 1, 1) := by decide +kernel
theorem dX6_seek_65 : decode cX6_seek 65 = .ok (.iload_n 3, 1) := by decide +kernel
theorem dX6_seek_66 : decode cX6_seek 66 = .ok (.invokevirtual 26, 3) := by decide +kernel
theorem dX6_seek_69 : decode cX6_seek 69 = .ok (.istore 4, 2) := by decide +kernel
theorem dX6_seek_71 : decode cX6_seek 71 = .ok (.iinc 5 1, 3) := by decide +kernel
theorem dX6_seek_74 : decode cX6_seek 74 = .ok (.goto (-25), 3) := by decide +kernel
theorem dX6_seek_77 : decode cX6_seek 77 = .ok (.return_, 1) := by decide +kernel
theorem dX6_reaches_0 : decode cX6_reaches 0 = .ok (.aload_n 0, 1) := by decide +kernel
theorem dX6_reaches_1 : decode cX6_reaches 1 = .ok (.getfield 9, 3) := by decide +kernel
theorem dX6_reaches_4 : decode cX6_reaches 4 = .ok (.iload_n 1, 1) := by decide +kernel
theorem dX6_reaches_5 : decode cX6_reaches 5 = .ok (.laload, 1) := by decide +kernel
theorem dX6_reaches_6 : decode cX6_reaches 6 = .ok (.ldc2_w 24, 3) := by decide +kernel
theorem dX6_reaches_9 : decode cX6_reaches 9 = .ok (.lcmp, 1) := by decide +kernel
theorem dX6_reaches_10 : decode cX6_reaches 10 = .ok (.ifCond .ge 7, 3) := by decide +kernel
theorem dX6_reaches_13 : decode cX6_reaches 13 = .ok (.iconst 1, 1) := by decide +kernel
theorem dX6_reaches_14 : decode cX6_reaches 14 = .ok (.goto 4, 3) := by decide +kernel
theorem dX6_reaches_17 : decode cX6_reaches 17 = .ok (.iconst 0, 1) := by decide +kernel
theorem dX6_reaches_18 : decode cX6_reaches 18 = .ok (.ireturn, 1) := by decide +kernel
set_option maxRecDepth 20000 in
theorem ggX6_shortenAll_X6_shorten : GoodIn wsX6_shortenAll wsX6_shorten := goodIn_r _ [5, 6, 7, 13, 14] (by decide +kernel) (by decide +kernel)
set_option maxRecDepth 20000 in
theorem gX6_shortenAll_X6_shorten : GoodIn wsX6_shortenAll (wsV RX6 43 RX6 yX6_shorten wsX6_shorten) := goodIn_app (goodIn_of _ (by decide +kernel)) ggX6_shortenAll_X6_shorten
theorem dX6_shortenAll_0 : decode cX6_shortenAll 0 = .ok (.iconst 0, 1) := by decide +kernel
theorem dX6_shortenAll_1 : decode cX6_shortenAll 1 = .ok (.istore_n 3, 1) := by decide +kernel
theorem dX6_shortenAll_2 : decode cX6_shortenAll 2 = .ok (.iconst 0, 1) := by decide +kernel
theorem dX6_shortenAll_3 : decode cX6_shortenAll 3 = .ok (.istore 4, 2) := by decide +kernel
theorem dX6_shortenAll_5 : decode cX6_shortenAll 5 = .ok (.iload 4, 2) := by decide +kernel
theorem dX6_shortenAll_7 : decode cX6_shortenAll 7 = .ok (.aload_n 1, 1) := by decide +kernel
theorem dX6_shortenAll_8 : decode cX6_shortenAll 8 = .ok (.getfield 30, 3) := by decide +kernel
theorem dX6_shortenAll_11 : decode cX6_shortenAll 11 = .ok (.if_icmp .ge 73, 3) := by decide +kernel
theorem dX6_shortenAll_14 : decode cX6_shortenAll 14 = .ok (.iload 4, 2) := by decide +kernel
theorem dX6_shortenAll_16 : decode cX6_shortenAll 16 = .ok (.iload_n 2, 1) := by decide +kernel
theorem dX6_shortenAll_17 : decode cX6_shortenAll 17 = .ok (.if_icmp .eq 61, 3) := by decide +kernel
theorem dX6_shortenAll_20 : decode cX6_shortenAll 20 = .ok (.aload_n 1, 1) := by decide +kernel
theorem dX6_shortenAll_21 : decode cX6_shortenAll 21 = .ok (.getfield 33, 3) := by decide +kernel
theorem dX6_shortenAll_24 : decode cX6_shortenAll 24 = .ok (.iload 4, 2) := by decide +kernel
theorem dX6_shortenAll_26 : decode cX6_shortenAll 26 = .ok (.iaload, 1) := by decide +kernel
theorem dX6_shortenAll_27 : decode cX6_shortenAll 27 = .ok (.istore 5, 2) := by decide +kernel
theorem dX6_shortenAll_29 : decode cX6_shortenAll 29 = .ok (.aload_n 1, 1) := by decide +kernel
theorem dX6_shortenAll_30 : decode cX6_shortenAll 30 = .ok (.getfield 37, 3) := by decide +kernel
theorem dX6_shortenAll_33 : decode cX6_shortenAll 33 = .ok (.iload 4, 2) := by decide +kernel
theorem dX6_shortenAll_35 : decode cX6_shortenAll 35 = .ok (.iaload, 1) := by decide +kernel
theorem dX6_shortenAll_36 : decode cX6_shortenAll 36 = .ok (.istore 6, 2) := by decide +kernel
theorem dX6_shortenAll_38 : decode cX6_shortenAll 38 = .ok (.iload_n 3, 1) := by decide +kernel
theorem dX6_shortenAll_39 : decode cX6_shortenAll 39 = .ok (.aload_n 0, 1) := by decide +kernel
theorem dX6_shortenAll_40 : decode cX6_shortenAll 40 = .ok (.iload 5, 2) := by decide +kernel
theorem dX6_shortenAll_42 : decode cX6_shortenAll 42 = .ok (.iload 6, 2) := by decide +kernel
theorem dX6_shortenAll_44 : decode cX6_shortenAll 44 = .ok (.iload 4, 2) := by decide +kernel
theorem dX6_shortenAll_46 : decode cX6_shortenAll 46 = .ok (.aload_n 1, 1) := by decide +kernel
theorem dX6_shortenAll_47 : decode cX6_shortenAll 47 = .ok (.getfield 40, 3) := by decide +kernel
theorem dX6_shortenAll_50 : decode cX6_shortenAll 50 = .ok (.iload 4, 2) := by decide +kernel
theorem dX6_shortenAll_52 : decode cX6_shortenAll 52 = .ok (.iaload, 1) := by decide +kernel
theorem dX6_shortenAll_53 : decode cX6_shortenAll 53 = .ok (.invokevirtual 43, 3) := by decide +kernel
theorem dX6_shortenAll_56 : decode cX6_shortenAll 56 = .ok (.ior, 1) := by decide +kernel
theorem dX6_shortenAll_57 : decode cX6_shortenAll 57 = .ok (.istore_n 3, 1) := by decide +kernel
theorem dX6_shortenAll_58 : decode cX6_shortenAll 58 = .ok (.iload_n 3, 1) := by decide +kernel
theorem dX6_shortenAll_59 : decode cX6_shortenAll 59 = .ok (.aload_n 0, 1) := by decide +kernel
theorem dX6_shortenAll_60 : decode cX6_shortenAll 60 = .ok (.iload 6, 2) := by decide +kernel
theorem dX6_shortenAll_62 : decode cX6_shortenAll 62 = .ok (.iload 5, 2) := by decide +kernel
theorem dX6_shortenAll_64 : decode cX6_shortenAll 64 = .ok (.iload 4, 2) := by decide +kernel
theorem dX6_shortenAll_66 : decode cX6_shortenAll 66 = .ok (.aload_n 1, 1) := by decide +kernel
theorem dX6_shortenAll_67 : decode cX6_shortenAll 67 = .ok (.getfield 40, 3) := by decide +kernel
theorem dX6_shortenAll_70 : decode cX6_shortenAll 70 = .ok (.iload 4, 2) := by decide +kernel
theorem dX6_shortenAll_72 : decode cX6_shortenAll 72 = .ok (.iaload, 1) := by decide +kernel
theorem dX6_shortenAll_73 : decode cX6_shortenAll 73 = .ok (.invokevirtual 43, 3) := by decide +kernel
theorem dX6_shortenAll_76 : decode cX6_shortenAll 76 = .ok (.ior, 1) := by decide +kernel
theorem dX6_shortenAll_77 : decode cX6_shortenAll 77 = .ok (.istore_n 3, 1) := by decide +kernel
theorem dX6_shortenAll_78 : decode cX6_shortenAll 78 = .ok (.iinc 4 1, 3) := by decide +kernel
theorem dX6_shortenAll_81 : decode cX6_shortenAll 81 = .ok (.goto (-76), 3) := by decide +kernel
theorem dX6_shortenAll_84 : decode cX6_shortenAll 84 = .ok (.iload_n 3, 1) := by decide +kernel
theorem dX6_shortenAll_85 : decode cX6_shortenAll 85 = .ok (.ireturn, 1) := by decide +kernel
theorem dX6_shorten_0 : decode cX6_shorten 0 = .ok (.aload_n 0, 1) := by decide +kernel
theorem dX6_shorten_1 : decode cX6_shorten 1 = .ok (.getfield 9, 3) := by decide +kernel
theorem dX6_shorten_4 : decode cX6_shorten 4 = .ok (.iload_n 1, 1) := by decide +kernel
theorem dX6_shorten_5 : decode cX6_shorten 5 = .ok (.laload, 1) := by decide +kernel
theorem dX6_shorten_6 : decode cX6_shorten 6 = .ok (.iload 4, 2) := by decide +kernel
theorem dX6_shorten_8 : decode cX6_shorten 8 = .ok (.i2l, 1) := by decide +kernel
theorem dX6_shorten_9 : decode cX6_shorten 9 = .ok (.ladd, 1) := by decide +kernel
theorem dX6_shorten_10 : decode cX6_shorten 10 = .ok (.aload_n 0, 1) := by decide +kernel
theorem dX6_shorten_11 : decode cX6_shorten 11 = .ok (.getfield 9, 3) := by decide +kernel
theorem dX6_shorten_14 : decode cX6_shorten 14 = .ok (.iload_n 2, 1) := by decide +kernel
theorem dX6_shorten_15 : decode cX6_shorten 15 = .ok (.laload, 1) := by decide +kernel
theorem dX6_shorten_16 : decode cX6_shorten 16 = .ok (.lcmp, 1) := by decide +kernel
theorem dX6_shorten_17 : decode cX6_shorten 17 = .ok (.ifCond .lt 5, 3) := by decide +kernel
theorem dX6_shorten_20 : decode cX6_shorten 20 = .ok (.iconst 0, 1) := by decide +kernel
theorem dX6_shorten_21 : decode cX6_shorten 21 = .ok (.ireturn, 1) := by decide +kernel
theorem dX6_shorten_22 : decode cX6_shorten 22 = .ok (.aload_n 0, 1) := by decide +kernel
theorem dX6_shorten_23 : decode cX6_shorten 23 = .ok (.getfield 9, 3) := by decide +kernel
theorem dX6_shorten_26 : decode cX6_shorten 26 = .ok (.iload_n 2, 1) := by decide +kernel
theorem dX6_shorten_27 : decode cX6_shorten 27 = .ok (.aload_n 0, 1) := by decide +kernel
theorem dX6_shorten_28 : decode cX6_shorten 28 = .ok (.getfield 9, 3) := by decide +kernel
theorem dX6_shorten_31 : decode cX6_shorten 31 = .ok (.iload_n 1, 1) := by decide +kernel
theorem dX6_shorten_32 : decode cX6_shorten 32 = .ok (.laload, 1) := by decide +kernel
theorem dX6_shorten_33 : decode cX6_shorten 33 = .ok (.iload 4, 2) := by decide +kernel
theorem dX6_shorten_35 : decode cX6_shorten 35 = .ok (.i2l, 1) := by decide +kernel
theorem dX6_shorten_36 : decode cX6_shorten 36 = .ok (.ladd, 1) := by decide +kernel
theorem dX6_shorten_37 : decode cX6_shorten 37 = .ok (.lastore, 1) := by decide +kernel
theorem dX6_shorten_38 : decode cX6_shorten 38 = .ok (.aload_n 0, 1) := by decide +kernel
theorem dX6_shorten_39 : decode cX6_shorten 39 = .ok (.getfield 15, 3) := by decide +kernel
theorem dX6_shorten_42 : decode cX6_shorten 42 = .ok (.iload_n 2, 1) := by decide +kernel
theorem dX6_shorten_43 : decode cX6_shorten 43 = .ok (.aload_n 0, 1) := by decide +kernel
theorem dX6_shorten_44 : decode cX6_shorten 44 = .ok (.getfield 15, 3) := by decide +kernel
theorem dX6_shorten_47 : decode cX6_shorten 47 = .ok (.iload_n 1, 1) := by decide +kernel
theorem dX6_shorten_48 : decode cX6_shorten 48 = .ok (.laload, 1) := by decide +kernel
theorem dX6_shorten_49 : decode cX6_shorten 49 = .ok (.lconst 1, 1) := by decide +kernel
theorem dX6_shorten_50 : decode cX6_shorten 50 = .ok (.iload_n 3, 1) := by decide +kernel
theorem dX6_shorten_51 : decode cX6_shorten 51 = .ok (.lshl, 1) := by decide +kernel
theorem dX6_shorten_52 : decode cX6_shorten 52 = .ok (.lxor, 1) := by decide +kernel
theorem dX6_shorten_53 : decode cX6_shorten 53 = .ok (.lastore, 1) := by decide +kernel
theorem dX6_shorten_54 : decode cX6_shorten 54 = .ok (.iconst 1, 1) := by decide +kernel
theorem dX6_shorten_55 : decode cX6_shorten 55 = .ok (.ireturn, 1) := by decide +kernel
theorem dX8_init_0 : decode cX8_init 0 = .ok (.aload_n 0, 1) := by decide +kernel
theorem dX8_init_1 : decode cX8_init 1 = .ok (.invokespecial 1, 3) := by decide +kernel
theorem dX8_init_4 : decode cX8_init 4 = .ok (.aload_n 0, 1) := by decide +kernel
theorem dX8_init_5 : decode cX8_init 5 = .ok (.iconst 1, 1) := by decide +kernel
theorem dX8_init_6 : decode cX8_init 6 = .ok (.putfield 7, 3) := by decide +kernel
theorem dX8_init_9 : decode cX8_init 9 = .ok (.aload_n 0, 1) := by decide +kernel
theorem dX8_init_10 : decode cX8_init 10 = .ok (.bipush 40, 2) := by decide +kernel
theorem dX8_init_12 : decode cX8_init 12 = .ok (.newarray .int, 2) := by decide +kernel
theorem dX8_init_14 : decode cX8_init 14 = .ok (.putfield 13, 3) := by decide +kernel
theorem dX8_init_17 : decode cX8_init 17 = .ok (.aload_n 0, 1) := by decide +kernel
theorem dX8_init_18 : decode cX8_init 18 = .ok (.bipush 40, 2) := by decide +kernel
theorem dX8_init_20 : decode cX8_init 20 = .ok (.newarray .int, 2) := by decide +kernel
theorem dX8_init_22 : decode cX8_init 22 = .ok (.putfield 17, 3) := by decide +kernel
theorem dX8_init_25 : decode cX8_init 25 = .ok (.aload_n 0, 1) := by decide +kernel
theorem dX8_init_26 : decode cX8_init 26 = .ok (.bipush 40, 2) := by decide +kernel
theorem dX8_init_28 : decode cX8_init 28 = .ok (.newarray .int, 2) := by decide +kernel
theorem dX8_init_30 : decode cX8_init 30 = .ok (.putfield 20, 3) := by decide +kernel
theorem dX8_init_33 : decode cX8_init 33 = .ok (.aload_n 0, 1) := by decide +kernel
theorem dX8_init_34 : decode cX8_init 34 = .ok (.bipush 64, 2) := by decide +kernel
theorem dX8_init_36 : decode cX8_init 36 = .ok (.newarray .long, 2) := by decide +kernel
theorem dX8_init_38 : decode cX8_init 38 = .ok (.putfield 23, 3) := by decide +kernel
theorem dX8_init_41 : decode cX8_init 41 = .ok (.aload_n 0, 1) := by decide +kernel
theorem dX8_init_42 : decode cX8_init 42 = .ok (.bipush 16, 2) := by decide +kernel
theorem dX8_init_44 : decode cX8_init 44 = .ok (.newarray .int, 2) := by decide +kernel
theorem dX8_init_46 : decode cX8_init 46 = .ok (.putfield 27, 3) := by decide +kernel
theorem dX8_init_49 : decode cX8_init 49 = .ok (.aload_n 0, 1) := by decide +kernel
theorem dX8_init_50 : decode cX8_init 50 = .ok (.bipush 16, 2) := by decide +kernel
theorem dX8_init_52 : decode cX8_init 52 = .ok (.newarray .long, 2) := by decide +kernel
theorem dX8_init_54 : decode cX8_init 54 = .ok (.putfield 30, 3) := by decide +kernel
theorem dX8_init_57 : decode cX8_init 57 = .ok (.aload_n 0, 1) := by decide +kernel
theorem dX8_init_58 : decode cX8_init 58 = .ok (.bipush 40, 2) := by decide +kernel
theorem dX8_init_60 : decode cX8_init 60 = .ok (.newarray .long, 2) := by decide +kernel
theorem dX8_init_62 : decode cX8_init 62 = .ok (.putfield 33, 3) := by decide +kernel
theorem dX8_init_65 : decode cX8_init 65 = .ok (.aload_n 0, 1) := by decide +kernel
theorem dX8_init_66 : decode cX8_init 66 = .ok (.bipush 40, 2) := by decide +kernel
theorem dX8_init_68 : decode cX8_init 68 = .ok (.newarray .int, 2) := by decide +kernel
theorem dX8_init_70 : decode cX8_init 70 = .ok (.putfield 36, 3) := by decide +kernel
theorem dX8_init_73 : decode cX8_init 73 = .ok (.aload_n 0, 1) := by decide +kernel
theorem dX8_init_74 : decode cX8_init 74 = .ok (.sipush 16384, 3) := by decide +kernel
theorem dX8_init_77 : decode cX8_init 77 = .ok (.newarray .long, 2) := by decide +kernel
theorem dX8_init_79 : decode cX8_init 79 = .ok (.putfield 39, 3) := by decide +kernel
theorem dX8_init_82 : decode cX8_init 82 = .ok (.aload_n 0, 1) := by decide +kernel
theorem dX8_init_83 : decode cX8_init 83 = .ok (.sipush 16384, 3) := by decide +kernel
theorem dX8_init_86 : decode cX8_init 86 = .ok (.newarray .long, 2) := by decide +kernel
theorem dX8_init_88 : decode cX8_init 88 = .ok (.putfield 42, 3) := by decide +kernel
theorem dX8_init_91 : decode cX8_init 91 = .ok (.aload_n 0, 1) := by decide +kernel
theorem dX8_init_92 : decode cX8_init 92 = .ok (.bipush 64, 2) := by decide +kernel
theorem dX8_init_94 : decode cX8_init 94 = .ok (.newarray .long, 2) := by decide +kernel
theorem dX8_init_96 : decode cX8_init 96 = .ok (.putfield 45, 3) := by decide +kernel
theorem dX8_init_99 : decode cX8_init 99 = .ok (.aload_n 0, 1) := by decide +kernel
theorem dX8_init_100 : decode cX8_init 100 = .ok (.sipush 256, 3) := by decide +kernel
theorem dX8_init_103 : decode cX8_init 103 = .ok (.newarray .long, 2) := by decide +kernel
theorem dX8_init_105 : decode cX8_init 105 = .ok (.putfield 48, 3) := by decide +kernel
theorem dX8_init_108 : decode cX8_init 108 = .ok (.aload_n 0, 1) := by decide +kernel
theorem dX8_init_109 : decode cX8_init 109 = .ok (.bipush 16, 2) := by decide +kernel
theorem dX8_init_111 : decode cX8_init 111 = .ok (.newarray .int, 2) := by decide +kernel
theorem dX8_init_113 : decode cX8_init 113 = .ok (.putfield 51, 3) := by decide +kernel
theorem dX8_init_116 : decode cX8_init 116 = .ok (.aload_n 0, 1) := by decide +kernel
theorem dX8_init_117 : decode cX8_init 117 = .ok (.bipush 16, 2) := by decide +kernel
theorem dX8_init_119 : decode cX8_init 119 = .ok (.newarray .boolean, 2) := by decide +kernel
theorem dX8_init_121 : decode cX8_init 121 = .ok (.putfield 54, 3) := by decide +kernel
theorem dX8_init_124 : decode cX8_init 124 = .ok (.return_, 1) := by decide +kernel
theorem dX8_thrown_0 : decode cX8_thrown 0 = .ok (.aload_n 0, 1) := by decide +kernel
theorem dX8_thrown_1 : decode cX8_thrown 1 = .ok (.getfield 58, 3) := by decide +kernel
theorem dX8_thrown_4 : decode cX8_thrown 4 = .ok (.ireturn, 1) := by decide +kernel
theorem dX8_throwing_0 : decode cX8_throwing 0 = .ok (.aload_n 0, 1) := by decide +kernel
theorem dX8_throwing_1 : decode cX8_throwing 1 = .ok (.iload_n 1, 1) := by decide +kernel
theorem dX8_throwing_2 : decode cX8_throwing 2 = .ok (.ifCond .eq 7, 3) := by decide +kernel
theorem dX8_throwing_5 : decode cX8_throwing 5 = .ok (.iconst 1, 1) := by decide +kernel
theorem dX8_throwing_6 : decode cX8_throwing 6 = .ok (.goto 12, 3) := by decide +kernel
theorem dX8_throwing_9 : decode cX8_throwing 9 = .ok (.iload_n 2, 1) := by decide +kernel
theorem dX8_throwing_10 : decode cX8_throwing 10 = .ok (.ifCond .eq 7, 3) := by decide +kernel
theorem dX8_throwing_13 : decode cX8_throwing 13 = .ok (.iconst 2, 1) := by decide +kernel
theorem dX8_throwing_14 : decode cX8_throwing 14 = .ok (.goto 4, 3) := by decide +kernel
theorem dX8_throwing_17 : decode cX8_throwing 17 = .ok (.iconst 0, 1) := by decide +kernel
theorem dX8_throwing_18 : decode cX8_throwing 18 = .ok (.putfield 58, 3) := by decide +kernel
theorem dX8_throwing_21 : decode cX8_throwing 21 = .ok (.aload_n 0, 1) := by decide +kernel
theorem dX8_throwing_22 : decode cX8_throwing 22 = .ok (.getfield 58, 3) := by decide +kernel
theorem dX8_throwing_25 : decode cX8_throwing 25 = .ok (.ifCond .le 7, 3) := by decide +kernel
theorem dX8_throwing_28 : decode cX8_throwing 28 = .ok (.iconst 1, 1) := by decide +kernel
theorem dX8_throwing_29 : decode cX8_throwing 29 = .ok (.goto 4, 3) := by decide +kernel
theorem dX8_throwing_32 : decode cX8_throwing 32 = .ok (.iconst 0, 1) := by decide +kernel
theorem dX8_throwing_33 : decode cX8_throwing 33 = .ok (.ireturn, 1) := by decide +kernel
theorem dX8_isVertex_0 : decode cX8_isVertex 0 = .ok (.iload_n 1, 1) := by decide +kernel
theorem dX8_isVertex_1 : decode cX8_isVertex 1 = .ok (.ifCond .lt 15, 3) := by decide +kernel
theorem dX8_isVertex_4 : decode cX8_isVertex 4 = .ok (.iload_n 1, 1) := by decide +kernel
theorem dX8_isVertex_5 : decode cX8_isVertex 5 = .ok (.aload_n 0, 1) := by decide +kernel
theorem dX8_isVertex_6 : decode cX8_isVertex 6 = .ok (.getfield 7, 3) := by decide +kernel
theorem dX8_isVertex_9 : decode cX8_isVertex 9 = .ok (.if_icmp .ge 7, 3) := by decide +kernel
theorem dX8_isVertex_12 : decode cX8_isVertex 12 = .ok (.iconst 1, 1) := by decide +kernel
theorem dX8_isVertex_13 : decode cX8_isVertex 13 = .ok (.goto 4, 3) := by decide +kernel
theorem dX8_isVertex_16 : decode cX8_isVertex 16 = .ok (.iconst 0, 1) := by decide +kernel
theorem dX8_isVertex_17 : decode cX8_isVertex 17 = .ok (.ireturn, 1) := by decide +kernel
theorem dX8_isSet_0 : decode cX8_isSet 0 = .ok (.lload_n 1, 1) := by decide +kernel
theorem dX8_isSet_1 : decode cX8_isSet 1 = .ok (.aload_n 0, 1) := by decide +kernel
theorem dX8_isSet_2 : decode cX8_isSet 2 = .ok (.getfield 61, 3) := by decide +kernel
theorem dX8_isSet_5 : decode cX8_isSet 5 = .ok (.lushr, 1) := by decide +kernel
theorem dX8_isSet_6 : decode cX8_isSet 6 = .ok (.lconst 0, 1) := by decide +kernel
theorem dX8_isSet_7 : decode cX8_isSet 7 = .ok (.lcmp, 1) := by decide +kernel
theorem dX8_isSet_8 : decode cX8_isSet 8 = .ok (.ifCond .ne 7, 3) := by decide +kernel
theorem dX8_isSet_11 : decode cX8_isSet 11 = .ok (.iconst 1, 1) := by decide +kernel
theorem dX8_isSet_12 : decode cX8_isSet 12 = .ok (.goto 4, 3) := by decide +kernel
theorem dX8_isSet_15 : decode cX8_isSet 15 = .ok (.iconst 0, 1) := by decide +kernel
theorem dX8_isSet_16 : decode cX8_isSet 16 = .ok (.ireturn, 1) := by decide +kernel
theorem dX8_beginGroups_0 : decode cX8_beginGroups 0 = .ok (.aload_n 0, 1) := by decide +kernel
theorem dX8_beginGroups_1 : decode cX8_beginGroups 1 = .ok (.iconst 0, 1) := by decide +kernel
theorem dX8_beginGroups_2 : decode cX8_beginGroups 2 = .ok (.putfield 64, 3) := by decide +kernel
theorem dX8_beginGroups_5 : decode cX8_beginGroups 5 = .ok (.iconst 0, 1) := by decide +kernel
theorem dX8_beginGroups_6 : decode cX8_beginGroups 6 = .ok (.istore_n 1, 1) := by decide +kernel
theorem dX8_beginGroups_7 : decode cX8_beginGroups 7 = .ok (.iload_n 1, 1) := by decide +kernel
theorem dX8_beginGroups_8 : decode cX8_beginGroups 8 = .ok (.bipush 16, 2) := by decide +kernel
theorem dX8_beginGroups_10 : decode cX8_beginGroups 10 = .ok (.if_icmp .ge 23, 3) := by decide +kernel
theorem dX8_beginGroups_13 : decode cX8_beginGroups 13 = .ok (.aload_n 0, 1) := by decide +kernel
theorem dX8_beginGroups_14 : decode cX8_beginGroups 14 = .ok (.getfield 27, 3) := by decide +kernel
theorem dX8_beginGroups_17 : decode cX8_beginGroups 17 = .ok (.iload_n 1, 1) := by decide +kernel
theorem dX8_beginGroups_18 : decode cX8_beginGroups 18 = .ok (.iload_n 1, 1) := by decide +kernel
theorem dX8_beginGroups_19 : decode cX8_beginGroups 19 = .ok (.iastore, 1) := by decide +kernel
theorem dX8_beginGroups_20 : decode cX8_beginGroups 20 = .ok (.aload_n 0, 1) := by decide +kernel
theorem dX8_beginGroups_21 : decode cX8_beginGroups 21 = .ok (.getfield 30, 3) := by decide +kernel
theorem dX8_beginGroups_24 : decode cX8_beginGroups 24 = .ok (.iload_n 1, 1) := by decide +kernel
theorem dX8_beginGroups_25 : decode cX8_beginGroups 25 = .ok (.lconst 0, 1) := by decide +kernel
theorem dX8_beginGroups_26 : decode cX8_beginGroups 26 = .ok (.lastore, 1) := by decide +kernel
theorem dX8_beginGroups_27 : decode cX8_beginGroups 27 = .ok (.iinc 1 1, 3) := by decide +kernel
theorem dX8_beginGroups_30 : decode cX8_beginGroups 30 = .ok (.goto (-23), 3) := by decide +kernel
theorem dX8_beginGroups_33 : decode cX8_beginGroups 33 = .ok (.return_, 1) := by decide +kernel
theorem dX8_joins_0 : decode cX8_joins 0 = .ok (.aload_n 0, 1) := by decide +kernel
theorem dX8_joins_1 : decode cX8_joins 1 = .ok (.getfield 13, 3) := by decide +kernel
theorem dX8_joins_4 : decode cX8_joins 4 = .ok (.iload_n 1, 1) := by decide +kernel
theorem dX8_joins_5 : decode cX8_joins 5 = .ok (.iaload, 1) := by decide +kernel
theorem dX8_joins_6 : decode cX8_joins 6 = .ok (.istore_n 2, 1) := by decide +kernel
theorem dX8_joins_7 : decode cX8_joins 7 = .ok (.aload_n 0, 1) := by decide +kernel
theorem dX8_joins_8 : decode cX8_joins 8 = .ok (.getfield 17, 3) := by decide +kernel
theorem dX8_joins_11 : decode cX8_joins 11 = .ok (.iload_n 1, 1) := by decide +kernel
theorem dX8_joins_12 : decode cX8_joins 12 = .ok (.iaload, 1) := by decide +kernel
theorem dX8_joins_13 : decode cX8_joins 13 = .ok (.istore_n 3, 1) := by decide +kernel
theorem dX8_joins_14 : decode cX8_joins 14 = .ok (.aload_n 0, 1) := by decide +kernel
theorem dX8_joins_15 : decode cX8_joins 15 = .ok (.getfield 27, 3) := by decide +kernel
theorem dX8_joins_18 : decode cX8_joins 18 = .ok (.iload_n 2, 1) := by decide +kernel
theorem dX8_joins_19 : decode cX8_joins 19 = .ok (.iaload, 1) := by decide +kernel
theorem dX8_joins_20 : decode cX8_joins 20 = .ok (.aload_n 0, 1) := by decide +kernel
theorem dX8_joins_21 : decode cX8_joins 21 = .ok (.getfield 27, 3) := by decide +kernel
theorem dX8_joins_24 : decode cX8_joins 24 = .ok (.iload_n 3, 1) := by decide +kernel
theorem dX8_joins_25 : decode cX8_joins 25 = .ok (.iaload, 1) := by decide +kernel
theorem dX8_joins_26 : decode cX8_joins 26 = .ok (.if_icmp .ne 51, 3) := by decide +kernel
theorem dX8_joins_29 : decode cX8_joins 29 = .ok (.aload_n 0, 1) := by decide +kernel
theorem dX8_joins_30 : decode cX8_joins 30 = .ok (.getfield 33, 3) := by decide +kernel
theorem dX8_joins_33 : decode cX8_joins 33 = .ok (.aload_n 0, 1) := by decide +kernel
theorem dX8_joins_34 : decode cX8_joins 34 = .ok (.getfield 64, 3) := by decide +kernel
theorem dX8_joins_37 : decode cX8_joins 37 = .ok (.aload_n 0, 1) := by decide +kernel
theorem dX8_joins_38 : decode cX8_joins 38 = .ok (.getfield 30, 3) := by decide +kernel
theorem dX8_joins_41 : decode cX8_joins 41 = .ok (.iload_n 2, 1) := by decide +kernel
theorem dX8_joins_42 : decode cX8_joins 42 = .ok (.laload, 1) := by decide +kernel
theorem dX8_joins_43 : decode cX8_joins 43 = .ok (.aload_n 0, 1) := by decide +kernel
theorem dX8_joins_44 : decode cX8_joins 44 = .ok (.getfield 30, 3) := by decide +kernel
theorem dX8_joins_47 : decode cX8_joins 47 = .ok (.iload_n 3, 1) := by decide +kernel
theorem dX8_joins_48 : decode cX8_joins 48 = .ok (.laload, 1) := by decide +kernel
theorem dX8_joins_49 : decode cX8_joins 49 = .ok (.lxor, 1) := by decide +kernel
theorem dX8_joins_50 : decode cX8_joins 50 = .ok (.lconst 1, 1) := by decide +kernel
theorem dX8_joins_51 : decode cX8_joins 51 = .ok (.iload_n 1, 1) := by decide +kernel
theorem dX8_joins_52 : decode cX8_joins 52 = .ok (.lshl, 1) := by decide +kernel
theorem dX8_joins_53 : decode cX8_joins 53 = .ok (.lxor, 1) := by decide +kernel
theorem dX8_joins_54 : decode cX8_joins 54 = .ok (.lastore, 1) := by decide +kernel
theorem dX8_joins_55 : decode cX8_joins 55 = .ok (.aload_n 0, 1) := by decide +kernel
theorem dX8_joins_56 : decode cX8_joins 56 = .ok (.getfield 36, 3) := by decide +kernel
theorem dX8_joins_59 : decode cX8_joins 59 = .ok (.aload_n 0, 1) := by decide +kernel
theorem dX8_joins_60 : decode cX8_joins 60 = .ok (.getfield 64, 3) := by decide +kernel
theorem dX8_joins_63 : decode cX8_joins 63 = .ok (.iload_n 1, 1) := by decide +kernel
theorem dX8_joins_64 : decode cX8_joins 64 = .ok (.iastore, 1) := by decide +kernel
theorem dX8_joins_65 : decode cX8_joins 65 = .ok (.aload_n 0, 1) := by decide +kernel
theorem dX8_joins_66 : decode cX8_joins 66 = .ok (.dup, 1) := by decide +kernel
theorem dX8_joins_67 : decode cX8_joins 67 = .ok (.getfield 64, 3) := by decide +kernel
theorem dX8_joins_70 : decode cX8_joins 70 = .ok (.iconst 1, 1) := by decide +kernel
theorem dX8_joins_71 : decode cX8_joins 71 = .ok (.iadd, 1) := by decide +kernel
theorem dX8_joins_72 : decode cX8_joins 72 = .ok (.putfield 64, 3) := by decide +kernel
theorem dX8_joins_75 : decode cX8_joins 75 = .ok (.iconst 0, 1) := by decide +kernel
theorem dX8_joins_76 : decode cX8_joins 76 = .ok (.ireturn, 1) := by decide +kernel
theorem dX8_joins_77 : decode cX8_joins 77 = .ok (.aload_n 0, 1) := by decide +kernel
theorem dX8_joins_78 : decode cX8_joins 78 = .ok (.getfield 27, 3) := by decide +kernel
theorem dX8_joins_81 : decode cX8_joins 81 = .ok (.iload_n 3, 1) := by decide +kernel
theorem dX8_joins_82 : decode cX8_joins 82 = .ok (.iaload, 1) := by decide +kernel
theorem dX8_joins_83 : decode cX8_joins 83 = .ok (.istore 4, 2) := by decide +kernel
theorem dX8_joins_85 : decode cX8_joins 85 = .ok (.aload_n 0, 1) := by decide +kernel
theorem dX8_joins_86 : decode cX8_joins 86 = .ok (.getfield 30, 3) := by decide +kernel
theorem dX8_joins_89 : decode cX8_joins 89 = .ok (.iload_n 2, 1) := by decide +kernel
theorem dX8_joins_90 : decode cX8_joins 90 = .ok (.laload, 1) := by decide +kernel
theorem dX8_joins_91 : decode cX8_joins 91 = .ok (.aload_n 0, 1) := by decide +kernel
theorem dX8_joins_92 : decode cX8_joins 92 = .ok (.getfield 30, 3) := by decide +kernel
theorem dX8_joins_95 : decode cX8_joins 95 = .ok (.iload_n 3, 1) := by decide +kernel
theorem dX8_joins_96 : decode cX8_joins 96 = .ok (.laload, 1) := by decide +kernel
theorem dX8_joins_97 : decode cX8_joins 97 = .ok (.lxor, 1) := by decide +kernel
theorem dX8_joins_98 : decode cX8_joins 98 = .ok (.lconst 1, 1) := by decide +kernel
theorem dX8_joins_99 : decode cX8_joins 99 = .ok (.iload_n 1, 1) := by decide +kernel
theorem dX8_joins_100 : decode cX8_joins 100 = .ok (.lshl, 1) := by decide +kernel
theorem dX8_joins_101 : decode cX8_joins 101 = .ok (.lxor, 1) := by decide +kernel
theorem dX8_joins_102 : decode cX8_joins 102 = .ok (.lstore 5, 2) := by decide +kernel
theorem dX8_joins_104 : decode cX8_joins 104 = .ok (.iconst 0, 1) := by decide +kernel
theorem dX8_joins_105 : decode cX8_joins 105 = .ok (.istore 7, 2) := by decide +kernel
theorem dX8_joins_107 : decode cX8_joins 107 = .ok (.iload 7, 2) := by decide +kernel
theorem dX8_joins_109 : decode cX8_joins 109 = .ok (.aload_n 0, 1) := by decide +kernel
theorem dX8_joins_110 : decode cX8_joins 110 = .ok (.getfield 7, 3) := by decide +kernel
theorem dX8_joins_113 : decode cX8_joins 113 = .ok (.if_icmp .ge 49, 3) := by decide +kernel
theorem dX8_joins_116 : decode cX8_joins 116 = .ok (.aload_n 0, 1) := by decide +kernel
theorem dX8_joins_117 : decode cX8_joins 117 = .ok (.getfield 27, 3) := by decide +kernel
theorem dX8_joins_120 : decode cX8_joins 120 = .ok (.iload 7, 2) := by decide +kernel
theorem dX8_joins_122 : decode cX8_joins 122 = .ok (.iaload, 1) := by decide +kernel
theorem dX8_joins_123 : decode cX8_joins 123 = .ok (.iload 4, 2) := by decide +kernel
theorem dX8_joins_125 : decode cX8_joins 125 = .ok (.if_icmp .eq 6, 3) := by decide +kernel
theorem dX8_joins_128 : decode cX8_joins 128 = .ok (.goto 28, 3) := by decide +kernel
theorem dX8_joins_131 : decode cX8_joins 131 = .ok (.aload_n 0, 1) := by decide +kernel
theorem dX8_joins_132 : decode cX8_joins 132 = .ok (.getfield 27, 3) := by decide +kernel
theorem dX8_joins_135 : decode cX8_joins 135 = .ok (.iload 7, 2) := by decide +kernel
theorem dX8_joins_137 : decode cX8_joins 137 = .ok (.aload_n 0, 1) := by decide +kernel
theorem dX8_joins_138 : decode cX8_joins 138 = .ok (.getfield 27, 3) := by decide +kernel
theorem dX8_joins_141 : decode cX8_joins 141 = .ok (.iload_n 2, 1) := by decide +kernel
theorem dX8_joins_142 : decode cX8_joins 142 = .ok (.iaload, 1) := by decide +kernel
theorem dX8_joins_143 : decode cX8_joins 143 = .ok (.iastore, 1) := by decide +kernel
theorem dX8_joins_144 : decode cX8_joins 144 = .ok (.aload_n 0, 1) := by decide +kernel
theorem dX8_joins_145 : decode cX8_joins 145 = .ok (.getfield 30, 3) := by decide +kernel
theorem dX8_joins_148 : decode cX8_joins 148 = .ok (.iload 7, 2) := by decide +kernel
theorem dX8_joins_150 : decode cX8_joins 150 = .ok (.dup2, 1) := by decide +kernel
theorem dX8_joins_151 : decode cX8_joins 151 = .ok (.laload, 1) := by decide +kernel
theorem dX8_joins_152 : decode cX8_joins 152 = .ok (.lload 5, 2) := by decide +kernel
theorem dX8_joins_154 : decode cX8_joins 154 = .ok (.lxor, 1) := by decide +kernel
theorem dX8_joins_155 : decode cX8_joins 155 = .ok (.lastore, 1) := by decide +kernel
theorem dX8_joins_156 : decode cX8_joins 156 = .ok (.iinc 7 1, 3) := by decide +kernel
theorem dX8_joins_159 : decode cX8_joins 159 = .ok (.goto (-52), 3) := by decide +kernel
theorem dX8_joins_162 : decode cX8_joins 162 = .ok (.iconst 1, 1) := by decide +kernel
theorem dX8_joins_163 : decode cX8_joins 163 = .ok (.ireturn, 1) := by decide +kernel
set_option maxRecDepth 20000 in
theorem ggX8_groups_X8_beginGroups : GoodIn wsX8_groups wsX8_beginGroups := goodIn_r _ [7, 8, 9, 10, 19, 20, 21, 22, 23, 24, 25, 26, 27, 28, 29, 30, 31, 32, 33, 34, 35, 36, 37, 38] (by decide +kernel) (by decide +kernel)
set_option maxRecDepth 20000 in
theorem gX8_groups_X8_beginGroups : GoodIn wsX8_groups (wsV RX8 67 RX8 yX8_beginGroups wsX8_beginGroups) := goodIn_app (goodIn_of _ (by decide +kernel)) ggX8_groups_X8_beginGroups
set_option maxRecDepth 20000 in
theorem ggX8_groups_X8_joins : GoodIn wsX8_groups wsX8_joins := goodIn_r _ [14, 15, 16, 9, 17, 8, 10, 18, 1, 19, 20, 21, 22, 23, 24, 25, 26, 27, 28, 29, 30, 31, 32, 33, 34, 35, 36, 37, 38] (by decide +kernel) (by decide +kernel)
set_option maxRecDepth 20000 in
theorem gX8_groups_X8_joins : GoodIn wsX8_groups (wsV RX8 70 RX8 yX8_joins wsX8_joins) := goodIn_app (goodIn_of _ (by decide +kernel)) ggX8_groups_X8_joins
theorem dX8_groups_0 : decode cX8_groups 0 = .ok (.aload_n 0, 1) := by decide +kernel
theorem dX8_groups_1 : decode cX8_groups 1 = .ok (.invokevirtual 67, 3) := by decide +kernel
theorem dX8_groups_4 : decode cX8_groups 4 = .ok (.aload_n 0, 1) := by decide +kernel
theorem dX8_groups_5 : decode cX8_groups 5 = .ok (.getfield 7, 3) := by decide +kernel
theorem dX8_groups_8 : decode cX8_groups 8 = .ok (.istore_n 1, 1) := by decide +kernel
theorem dX8_groups_9 : decode cX8_groups 9 = .ok (.iconst 0, 1) := by decide +kernel
theorem dX8_groups_10 : decode cX8_groups 10 = .ok (.istore_n 2, 1) := by decide +kernel
theorem dX8_groups_11 : decode cX8_groups 11 = .ok (.iload_n 2, 1) := by decide +kernel
theorem dX8_groups_12 : decode cX8_groups 12 = .ok (.aload_n 0, 1) := by decide +kernel
theorem dX8_groups_13 : decode cX8_groups 13 = .ok (.getfield 61, 3) := by decide +kernel
theorem dX8_groups_16 : decode cX8_groups 16 = .ok (.if_icmp .ge 25, 3) := by decide +kernel
theorem dX8_groups_19 : decode cX8_groups 19 = .ok (.iload_n 1, 1) := by decide +kernel
theorem dX8_groups_20 : decode cX8_groups 20 = .ok (.aload_n 0, 1) := by decide +kernel
theorem dX8_groups_21 : decode cX8_groups 21 = .ok (.iload_n 2, 1) := by decide +kernel
theorem dX8_groups_22 : decode cX8_groups 22 = .ok (.invokevirtual 70, 3) := by decide +kernel
theorem dX8_groups_25 : decode cX8_groups 25 = .ok (.ifCond .eq 7, 3) := by decide +kernel
theorem dX8_groups_28 : decode cX8_groups 28 = .ok (.iconst 1, 1) := by decide +kernel
theorem dX8_groups_29 : decode cX8_groups 29 = .ok (.goto 4, 3) := by decide +kernel
theorem dX8_groups_32 : decode cX8_groups 32 = .ok (.iconst 0, 1) := by decide +kernel
theorem dX8_groups_33 : decode cX8_groups 33 = .ok (.isub, 1) := by decide +kernel
theorem dX8_groups_34 : decode cX8_groups 34 = .ok (.istore_n 1, 1) := by decide +kernel
theorem dX8_groups_35 : decode cX8_groups 35 = .ok (.iinc 2 1, 3) := by decide +kernel
theorem dX8_groups_38 : decode cX8_groups 38 = .ok (.goto (-27), 3) := by decide +kernel
theorem dX8_groups_41 : decode cX8_groups 41 = .ok (.iload_n 1, 1) := by decide +kernel
theorem dX8_groups_42 : decode cX8_groups 42 = .ok (.ireturn, 1) := by decide +kernel
set_option maxRecDepth 20000 in
theorem ggX8_dimension_X8_groups : GoodIn wsX8_dimension wsX8_groups := goodIn_r _ [7, 2, 1, 8, 9, 10, 6, 11, 12, 13, 14, 15, 16, 17, 18, 19, 20, 21, 22, 23, 24, 25, 26, 27, 28, 29, 30, 31, 32, 33, 34, 35, 36, 37, 38, 39, 40, 41, 42] (by decide +kernel) (by decide +kernel)
set_option maxRecDepth 20000 in
theorem gX8_dimension_X8_groups : GoodIn wsX8_dimension (wsV RX8 74 RX8 yX8_groups wsX8_groups) := goodIn_app (goodIn_of _ (by decide +kernel)) ggX8_dimension_X8_groups
theorem dX8_dimension_0 : decode cX8_dimension 0 = .ok (.aload_n 0, 1) := by decide +kernel
theorem dX8_dimension_1 : decode cX8_dimension 1 = .ok (.getfield 61, 3) := by decide +kernel
theorem dX8_dimension_4 : decode cX8_dimension 4 = .ok (.aload_n 0, 1) := by decide +kernel
theorem dX8_dimension_5 : decode cX8_dimension 5 = .ok (.getfield 7, 3) := by decide +kernel
theorem dX8_dimension_8 : decode cX8_dimension 8 = .ok (.isub, 1) := by decide +kernel
theorem dX8_dimension_9 : decode cX8_dimension 9 = .ok (.aload_n 0, 1) := by decide +kernel
theorem dX8_dimension_10 : decode cX8_dimension 10 = .ok (.invokevirtual 74, 3) := by decide +kernel
theorem dX8_dimension_13 : decode cX8_dimension 13 = .ok (.iadd, 1) := by decide +kernel
theorem dX8_dimension_14 : decode cX8_dimension 14 = .ok (.ireturn, 1) := by decide +kernel
set_option maxRecDepth 20000 in
theorem ggX8_reset_X8_throwing : GoodIn wsX8_reset wsX8_throwing := goodIn_r _ [7, 8, 9, 10, 11, 12, 13, 14, 15, 16, 17, 18, 19, 20, 21, 22, 23, 24, 25, 26, 27, 28] (by decide +kernel) (by decide +kernel)
set_option maxRecDepth 20000 in
theorem gX8_reset_X8_throwing : GoodIn wsX8_reset (wsV RX8 78 RX8 yX8_throwing wsX8_throwing) := goodIn_app (goodIn_of _ (by decide +kernel)) ggX8_reset_X8_throwing
theorem dX8_reset_0 : decode cX8_reset 0 = .ok (.aload_n 0, 1) := by decide +kernel
theorem dX8_reset_1 : decode cX8_reset 1 = .ok (.iload_n 1, 1) := by decide +kernel
theorem dX8_reset_2 : decode cX8_reset 2 = .ok (.iconst 1, 1) := by decide +kernel
theorem dX8_reset_3 : decode cX8_reset 3 = .ok (.if_icmp .lt 9, 3) := by decide +kernel
theorem dX8_reset_6 : decode cX8_reset 6 = .ok (.iload_n 1, 1) := by decide +kernel
theorem dX8_reset_7 : decode cX8_reset 7 = .ok (.bipush 16, 2) := by decide +kernel
theorem dX8_reset_9 : decode cX8_reset 9 = .ok (.if_icmp .le 7, 3) := by decide +kernel
theorem dX8_reset_12 : decode cX8_reset 12 = .ok (.iconst 1, 1) := by decide +kernel
theorem dX8_reset_13 : decode cX8_reset 13 = .ok (.goto 4, 3) := by decide +kernel
theorem dX8_reset_16 : decode cX8_reset 16 = .ok (.iconst 0, 1) := by decide +kernel
theorem dX8_reset_17 : decode cX8_reset 17 = .ok (.iconst 0, 1) := by decide +kernel
theorem dX8_reset_18 : decode cX8_reset 18 = .ok (.invokevirtual 78, 3) := by decide +kernel
theorem dX8_reset_21 : decode cX8_reset 21 = .ok (.ifCond .eq 5, 3) := by decide +kernel
theorem dX8_reset_24 : decode cX8_reset 24 = .ok (.iconst 0, 1) := by decide +kernel
theorem dX8_reset_25 : decode cX8_reset 25 = .ok (.ireturn, 1) := by decide +kernel
theorem dX8_reset_26 : decode cX8_reset 26 = .ok (.aload_n 0, 1) := by decide +kernel
theorem dX8_reset_27 : decode cX8_reset 27 = .ok (.getfield 61, 3) := by decide +kernel
theorem dX8_reset_30 : decode cX8_reset 30 = .ok (.istore_n 2, 1) := by decide +kernel
theorem dX8_reset_31 : decode cX8_reset 31 = .ok (.aload_n 0, 1) := by decide +kernel
theorem dX8_reset_32 : decode cX8_reset 32 = .ok (.iload_n 1, 1) := by decide +kernel
theorem dX8_reset_33 : decode cX8_reset 33 = .ok (.putfield 7, 3) := by decide +kernel
theorem dX8_reset_36 : decode cX8_reset 36 = .ok (.aload_n 0, 1) := by decide +kernel
theorem dX8_reset_37 : decode cX8_reset 37 = .ok (.iconst 0, 1) := by decide +kernel
theorem dX8_reset_38 : decode cX8_reset 38 = .ok (.putfield 61, 3) := by decide +kernel
theorem dX8_reset_41 : decode cX8_reset 41 = .ok (.iload_n 2, 1) := by decide +kernel
theorem dX8_reset_42 : decode cX8_reset 42 = .ok (.ireturn, 1) := by decide +kernel
set_option maxRecDepth 20000 in
theorem ggX8_edge_X8_isVertex : GoodIn wsX8_edge wsX8_isVertex := goodIn_r _ [11, 12, 38, 39, 40, 41, 42, 43, 44, 45, 46, 47, 48, 49, 50, 51, 52, 53, 54, 55, 56, 57] (by decide +kernel) (by decide +kernel)
set_option maxRecDepth 20000 in
theorem gX8_edge_X8_isVertex : GoodIn wsX8_edge (wsV RX8 82 RX8 yX8_isVertex wsX8_isVertex) := goodIn_app (goodIn_of _ (by decide +kernel)) ggX8_edge_X8_isVertex
set_option maxRecDepth 20000 in
theorem ggX8_edge_X8_dimension : GoodIn wsX8_edge wsX8_dimension := goodIn_r _ [16, 2, 12, 17, 18, 19, 10, 20, 21, 22, 23, 24, 25, 3, 26, 27, 28, 29, 30, 4, 5, 31, 32, 38, 39, 40, 41, 42, 43, 44, 45, 46, 47, 48, 49, 50, 51, 52, 53, 54, 55, 56, 57] (by decide +kernel) (by decide +kernel)
set_option maxRecDepth 20000 in
theorem gX8_edge_X8_dimension : GoodIn wsX8_edge (wsV RX8 86 RX8 yX8_dimension wsX8_dimension) := goodIn_app (goodIn_of _ (by decide +kernel)) ggX8_edge_X8_dimension
set_option maxRecDepth 20000 in
theorem ggX8_edge_X8_throwing : GoodIn wsX8_edge wsX8_throwing := goodIn_r _ [36, 37, 38, 39, 40, 41, 42, 43, 44, 45, 46, 47, 48, 49, 50, 51, 52, 53, 54, 55, 56, 57] (by decide +kernel) (by decide +kernel)
set_option maxRecDepth 20000 in
theorem gX8_edge_X8_throwing : GoodIn wsX8_edge (wsV RX8 78 RX8 yX8_throwing wsX8_throwing) := goodIn_app (goodIn_of _ (by decide +kernel)) ggX8_edge_X8_throwing
theorem dX8_edge_0 : decode cX8_edge 0 = .ok (.aload_n 0, 1) := by decide +kernel
theorem dX8_edge_1 : decode cX8_edge 1 = .ok (.iload_n 1, 1) := by decide +kernel
theorem dX8_edge_2 : decode cX8_edge 2 = .ok (.invokevirtual 82, 3) := by decide +kernel
theorem dX8_edge_5 : decode cX8_edge 5 = .ok (.ifCond .eq 21, 3) := by decide +kernel
theorem dX8_edge_8 : decode cX8_edge 8 = .ok (.aload_n 0, 1) := by decide +kernel
theorem dX8_edge_9 : decode cX8_edge 9 = .ok (.iload_n 2, 1) := by decide +kernel
theorem dX8_edge_10 : decode cX8_edge 10 = .ok (.invokevirtual 82, 3) := by decide +kernel
theorem dX8_edge_13 : decode cX8_edge 13 = .ok (.ifCond .eq 13, 3) := by decide +kernel
theorem dX8_edge_16 : decode cX8_edge 16 = .ok (.iload_n 3, 1) := by decide +kernel
theorem dX8_edge_17 : decode cX8_edge 17 = .ok (.ifCond .lt 9, 3) := by decide +kernel
theorem dX8_edge_20 : decode cX8_edge 20 = .ok (.iload_n 3, 1) := by decide +kernel
theorem dX8_edge_21 : decode cX8_edge 21 = .ok (.ldc 85, 2) := by decide +kernel
theorem dX8_edge_23 : decode cX8_edge 23 = .ok (.if_icmp .le 7, 3) := by decide +kernel
theorem dX8_edge_26 : decode cX8_edge 26 = .ok (.iconst 1, 1) := by decide +kernel
theorem dX8_edge_27 : decode cX8_edge 27 = .ok (.goto 4, 3) := by decide +kernel
theorem dX8_edge_30 : decode cX8_edge 30 = .ok (.iconst 0, 1) := by decide +kernel
theorem dX8_edge_31 : decode cX8_edge 31 = .ok (.istore 4, 2) := by decide +kernel
theorem dX8_edge_33 : decode cX8_edge 33 = .ok (.iconst 0, 1) := by decide +kernel
theorem dX8_edge_34 : decode cX8_edge 34 = .ok (.istore 5, 2) := by decide +kernel
theorem dX8_edge_36 : decode cX8_edge 36 = .ok (.iload 4, 2) := by decide +kernel
theorem dX8_edge_38 : decode cX8_edge 38 = .ok (.ifCond .ne 47, 3) := by decide +kernel
theorem dX8_edge_41 : decode cX8_edge 41 = .ok (.aload_n 0, 1) := by decide +kernel
theorem dX8_edge_42 : decode cX8_edge 42 = .ok (.invokevirtual 86, 3) := by decide +kernel
theorem dX8_edge_45 : decode cX8_edge 45 = .ok (.istore 6, 2) := by decide +kernel
theorem dX8_edge_47 : decode cX8_edge 47 = .ok (.aload_n 0, 1) := by decide +kernel
theorem dX8_edge_48 : decode cX8_edge 48 = .ok (.getfield 61, 3) := by decide +kernel
theorem dX8_edge_51 : decode cX8_edge 51 = .ok (.bipush 40, 2) := by decide +kernel
theorem dX8_edge_53 : decode cX8_edge 53 = .ok (.if_icmp .eq 25, 3) := by decide +kernel
theorem dX8_edge_56 : decode cX8_edge 56 = .ok (.iload 6, 2) := by decide +kernel
theorem dX8_edge_58 : decode cX8_edge 58 = .ok (.bipush 14, 2) := by decide +kernel
theorem dX8_edge_60 : decode cX8_edge 60 = .ok (.if_icmp .ne 22, 3) := by decide +kernel
theorem dX8_edge_63 : decode cX8_edge 63 = .ok (.aload_n 0, 1) := by decide +kernel
theorem dX8_edge_64 : decode cX8_edge 64 = .ok (.getfield 27, 3) := by decide +kernel
theorem dX8_edge_67 : decode cX8_edge 67 = .ok (.iload_n 1, 1) := by decide +kernel
theorem dX8_edge_68 : decode cX8_edge 68 = .ok (.iaload, 1) := by decide +kernel
theorem dX8_edge_69 : decode cX8_edge 69 = .ok (.aload_n 0, 1) := by decide +kernel
theorem dX8_edge_70 : decode cX8_edge 70 = .ok (.getfield 27, 3) := by decide +kernel
theorem dX8_edge_73 : decode cX8_edge 73 = .ok (.iload_n 2, 1) := by decide +kernel
theorem dX8_edge_74 : decode cX8_edge 74 = .ok (.iaload, 1) := by decide +kernel
theorem dX8_edge_75 : decode cX8_edge 75 = .ok (.if_icmp .ne 7, 3) := by decide +kernel
theorem dX8_edge_78 : decode cX8_edge 78 = .ok (.iconst 1, 1) := by decide +kernel
theorem dX8_edge_79 : decode cX8_edge 79 = .ok (.goto 4, 3) := by decide +kernel
theorem dX8_edge_82 : decode cX8_edge 82 = .ok (.iconst 0, 1) := by decide +kernel
theorem dX8_edge_83 : decode cX8_edge 83 = .ok (.istore 5, 2) := by decide +kernel
theorem dX8_edge_85 : decode cX8_edge 85 = .ok (.aload_n 0, 1) := by decide +kernel
theorem dX8_edge_86 : decode cX8_edge 86 = .ok (.iload 4, 2) := by decide +kernel
theorem dX8_edge_88 : decode cX8_edge 88 = .ok (.iload 5, 2) := by decide +kernel
theorem dX8_edge_90 : decode cX8_edge 90 = .ok (.invokevirtual 78, 3) := by decide +kernel
theorem dX8_edge_93 : decode cX8_edge 93 = .ok (.ifCond .eq 5, 3) := by decide +kernel
theorem dX8_edge_96 : decode cX8_edge 96 = .ok (.iconst 0, 1) := by decide +kernel
theorem dX8_edge_97 : decode cX8_edge 97 = .ok (.ireturn, 1) := by decide +kernel
theorem dX8_edge_98 : decode cX8_edge 98 = .ok (.aload_n 0, 1) := by decide +kernel
theorem dX8_edge_99 : decode cX8_edge 99 = .ok (.getfield 13, 3) := by decide +kernel
theorem dX8_edge_102 : decode cX8_edge 102 = .ok (.aload_n 0, 1) := by decide +kernel
theorem dX8_edge_103 : decode cX8_edge 103 = .ok (.getfield 61, 3) := by decide +kernel
theorem dX8_edge_106 : decode cX8_edge 106 = .ok (.iload_n 1, 1) := by decide +kernel
theorem dX8_edge_107 : decode cX8_edge 107 = .ok (.iastore, 1) := by decide +kernel
theorem dX8_edge_108 : decode cX8_edge 108 = .ok (.aload_n 0, 1) := by decide +kernel
theorem dX8_edge_109 : decode cX8_edge 109 = .ok (.getfield 17, 3) := by decide +kernel
theorem dX8_edge_112 : decode cX8_edge 112 = .ok (.aload_n 0, 1) := by decide +kernel
theorem dX8_edge_113 : decode cX8_edge 113 = .ok (.getfield 61, 3) := by decide +kernel
theorem dX8_edge_116 : decode cX8_edge 116 = .ok (.iload_n 2, 1) := by decide +kernel
theorem dX8_edge_117 : decode cX8_edge 117 = .ok (.iastore, 1) := by decide +kernel
theorem dX8_edge_118 : decode cX8_edge 118 = .ok (.aload_n 0, 1) := by decide +kernel
theorem dX8_edge_119 : decode cX8_edge 119 = .ok (.getfield 20, 3) := by decide +kernel
theorem dX8_edge_122 : decode cX8_edge 122 = .ok (.aload_n 0, 1) := by decide +kernel
theorem dX8_edge_123 : decode cX8_edge 123 = .ok (.getfield 61, 3) := by decide +kernel
theorem dX8_edge_126 : decode cX8_edge 126 = .ok (.iload_n 3, 1) := by decide +kernel
theorem dX8_edge_127 : decode cX8_edge 127 = .ok (.iastore, 1) := by decide +kernel
theorem dX8_edge_128 : decode cX8_edge 128 = .ok (.aload_n 0, 1) := by decide +kernel
theorem dX8_edge_129 : decode cX8_edge 129 = .ok (.dup, 1) := by decide +kernel
theorem dX8_edge_130 : decode cX8_edge 130 = .ok (.getfield 61, 3) := by decide +kernel
theorem dX8_edge_133 : decode cX8_edge 133 = .ok (.iconst 1, 1) := by decide +kernel
theorem dX8_edge_134 : decode cX8_edge 134 = .ok (.iadd, 1) := by decide +kernel
theorem dX8_edge_135 : decode cX8_edge 135 = .ok (.putfield 61, 3) := by decide +kernel
theorem dX8_edge_138 : decode cX8_edge 138 = .ok (.aload_n 0, 1) := by decide +kernel
theorem dX8_edge_139 : decode cX8_edge 139 = .ok (.getfield 61, 3) := by decide +kernel
theorem dX8_edge_142 : decode cX8_edge 142 = .ok (.iconst 1, 1) := by decide +kernel
theorem dX8_edge_143 : decode cX8_edge 143 = .ok (.isub, 1) := by decide +kernel
theorem dX8_edge_144 : decode cX8_edge 144 = .ok (.ireturn, 1) := by decide +kernel
set_option maxRecDepth 20000 in
theorem ggX8_drop_X8_throwing : GoodIn wsX8_drop wsX8_throwing := goodIn_r _ [6, 7, 8, 9, 10, 11, 12, 13, 14, 15, 16, 17, 18, 19, 20, 21, 22, 23, 24, 25, 26, 27] (by decide +kernel) (by decide +kernel)
set_option maxRecDepth 20000 in
theorem gX8_drop_X8_throwing : GoodIn wsX8_drop (wsV RX8 78 RX8 yX8_throwing wsX8_throwing) := goodIn_app (goodIn_of _ (by decide +kernel)) ggX8_drop_X8_throwing
theorem dX8_drop_0 : decode cX8_drop 0 = .ok (.aload_n 0, 1) := by decide +kernel
theorem dX8_drop_1 : decode cX8_drop 1 = .ok (.aload_n 0, 1) := by decide +kernel
theorem dX8_drop_2 : decode cX8_drop 2 = .ok (.getfield 61, 3) := by decide +kernel
theorem dX8_drop_5 : decode cX8_drop 5 = .ok (.ifCond .ne 7, 3) := by decide +kernel
theorem dX8_drop_8 : decode cX8_drop 8 = .ok (.iconst 1, 1) := by decide +kernel
theorem dX8_drop_9 : decode cX8_drop 9 = .ok (.goto 4, 3) := by decide +kernel
theorem dX8_drop_12 : decode cX8_drop 12 = .ok (.iconst 0, 1) := by decide +kernel
theorem dX8_drop_13 : decode cX8_drop 13 = .ok (.iconst 0, 1) := by decide +kernel
theorem dX8_drop_14 : decode cX8_drop 14 = .ok (.invokevirtual 78, 3) := by decide +kernel
theorem dX8_drop_17 : decode cX8_drop 17 = .ok (.ifCond .eq 5, 3) := by decide +kernel
theorem dX8_drop_20 : decode cX8_drop 20 = .ok (.iconst 0, 1) := by decide +kernel
theorem dX8_drop_21 : decode cX8_drop 21 = .ok (.ireturn, 1) := by decide +kernel
theorem dX8_drop_22 : decode cX8_drop 22 = .ok (.aload_n 0, 1) := by decide +kernel
theorem dX8_drop_23 : decode cX8_drop 23 = .ok (.dup, 1) := by decide +kernel
theorem dX8_drop_24 : decode cX8_drop 24 = .ok (.getfield 61, 3) := by decide +kernel
theorem dX8_drop_27 : decode cX8_drop 27 = .ok (.iconst 1, 1) := by decide +kernel
theorem dX8_drop_28 : decode cX8_drop 28 = .ok (.isub, 1) := by decide +kernel
theorem dX8_drop_29 : decode cX8_drop 29 = .ok (.putfield 61, 3) := by decide +kernel
theorem dX8_drop_32 : decode cX8_drop 32 = .ok (.aload_n 0, 1) := by decide +kernel
theorem dX8_drop_33 : decode cX8_drop 33 = .ok (.getfield 61, 3) := by decide +kernel
theorem dX8_drop_36 : decode cX8_drop 36 = .ok (.ireturn, 1) := by decide +kernel
theorem dX8_weightOf_0 : decode cX8_weightOf 0 = .ok (.lconst 0, 1) := by decide +kernel
theorem dX8_weightOf_1 : decode cX8_weightOf 1 = .ok (.lstore_n 3, 1) := by decide +kernel
theorem dX8_weightOf_2 : decode cX8_weightOf 2 = .ok (.iconst 0, 1) := by decide +kernel
theorem dX8_weightOf_3 : decode cX8_weightOf 3 = .ok (.istore 5, 2) := by decide +kernel
theorem dX8_weightOf_5 : decode cX8_weightOf 5 = .ok (.iload 5, 2) := by decide +kernel
theorem dX8_weightOf_7 : decode cX8_weightOf 7 = .ok (.aload_n 0, 1) := by decide +kernel
theorem dX8_weightOf_8 : decode cX8_weightOf 8 = .ok (.getfield 61, 3) := by decide +kernel
theorem dX8_weightOf_11 : decode cX8_weightOf 11 = .ok (.if_icmp .ge 31, 3) := by decide +kernel
theorem dX8_weightOf_14 : decode cX8_weightOf 14 = .ok (.lload_n 1, 1) := by decide +kernel
theorem dX8_weightOf_15 : decode cX8_weightOf 15 = .ok (.iload 5, 2) := by decide +kernel
theorem dX8_weightOf_17 : decode cX8_weightOf 17 = .ok (.lshr, 1) := by decide +kernel
theorem dX8_weightOf_18 : decode cX8_weightOf 18 = .ok (.lconst 1, 1) := by decide +kernel
theorem dX8_weightOf_19 : decode cX8_weightOf 19 = .ok (.land, 1) := by decide +kernel
theorem dX8_weightOf_20 : decode cX8_weightOf 20 = .ok (.lconst 1, 1) := by decide +kernel
theorem dX8_weightOf_21 : decode cX8_weightOf 21 = .ok (.lcmp, 1) := by decide +kernel
theorem dX8_weightOf_22 : decode cX8_weightOf 22 = .ok (.ifCond .ne 14, 3) := by decide +kernel
theorem dX8_weightOf_25 : decode cX8_weightOf 25 = .ok (.lload_n 3, 1) := by decide +kernel
theorem dX8_weightOf_26 : decode cX8_weightOf 26 = .ok (.aload_n 0, 1) := by decide +kernel
theorem dX8_weightOf_27 : decode cX8_weightOf 27 = .ok (.getfield 20, 3) := by decide +kernel
theorem dX8_weightOf_30 : decode cX8_weightOf 30 = .ok (.iload 5, 2) := by decide +kernel
theorem dX8_weightOf_32 : decode cX8_weightOf 32 = .ok (.iaload, 1) := by decide +kernel
theorem dX8_weightOf_33 : decode cX8_weightOf 33 = .ok (.i2l, 1) := by decide +kernel
theorem dX8_weightOf_34 : decode cX8_weightOf 34 = .ok (.ladd, 1) := by decide +kernel
theorem dX8_weightOf_35 : decode cX8_weightOf 35 = .ok (.lstore_n 3, 1) := by decide +kernel
theorem dX8_weightOf_36 : decode cX8_weightOf 36 = .ok (.iinc 5 1, 3) := by decide +kernel
theorem dX8_weightOf_39 : decode cX8_weightOf 39 = .ok (.goto (-34), 3) := by decide +kernel
theorem dX8_weightOf_42 : decode cX8_weightOf 42 = .ok (.lload_n 3, 1) := by decide +kernel
theorem dX8_weightOf_43 : decode cX8_weightOf 43 = .ok (.lreturn, 1) := by decide +kernel
set_option maxRecDepth 20000 in
theorem ggX8_beginsWith_X8_beginGroups : GoodIn wsX8_beginsWith wsX8_beginGroups := goodIn_r _ [6, 7, 8, 9, 19, 20, 21, 22, 23, 24, 25, 26, 27, 28, 29, 30, 31, 32, 33, 34, 35, 36, 37, 38] (by decide +kernel) (by decide +kernel)
set_option maxRecDepth 20000 in
theorem gX8_beginsWith_X8_beginGroups : GoodIn wsX8_beginsWith (wsV RX8 67 RX8 yX8_beginGroups wsX8_beginGroups) := goodIn_app (goodIn_of _ (by decide +kernel)) ggX8_beginsWith_X8_beginGroups
set_option maxRecDepth 20000 in
theorem ggX8_beginsWith_X8_joins : GoodIn wsX8_beginsWith wsX8_joins := goodIn_r _ [13, 14, 15, 8, 16, 7, 9, 17, 18, 19, 20, 21, 22, 23, 24, 25, 26, 27, 28, 29, 30, 31, 32, 33, 34, 35, 36, 37, 38] (by decide +kernel) (by decide +kernel)
set_option maxRecDepth 20000 in
theorem gX8_beginsWith_X8_joins : GoodIn wsX8_beginsWith (wsV RX8 70 RX8 yX8_joins wsX8_joins) := goodIn_app (goodIn_of _ (by decide +kernel)) ggX8_beginsWith_X8_joins
theorem dX8_beginsWith_0 : decode cX8_beginsWith 0 = .ok (.aload_n 0, 1) := by decide +kernel
theorem dX8_beginsWith_1 : decode cX8_beginsWith 1 = .ok (.invokevirtual 67, 3) := by decide +kernel
theorem dX8_beginsWith_4 : decode cX8_beginsWith 4 = .ok (.iconst 1, 1) := by decide +kernel
theorem dX8_beginsWith_5 : decode cX8_beginsWith 5 = .ok (.istore_n 3, 1) := by decide +kernel
theorem dX8_beginsWith_6 : decode cX8_beginsWith 6 = .ok (.iconst 0, 1) := by decide +kernel
theorem dX8_beginsWith_7 : decode cX8_beginsWith 7 = .ok (.istore 4, 2) := by decide +kernel
theorem dX8_beginsWith_9 : decode cX8_beginsWith 9 = .ok (.iload 4, 2) := by decide +kernel
theorem dX8_beginsWith_11 : decode cX8_beginsWith 11 = .ok (.aload_n 0, 1) := by decide +kernel
theorem dX8_beginsWith_12 : decode cX8_beginsWith 12 = .ok (.getfield 61, 3) := by decide +kernel
theorem dX8_beginsWith_15 : decode cX8_beginsWith 15 = .ok (.if_icmp .ge 39, 3) := by decide +kernel
theorem dX8_beginsWith_18 : decode cX8_beginsWith 18 = .ok (.lload_n 1, 1) := by decide +kernel
theorem dX8_beginsWith_19 : decode cX8_beginsWith 19 = .ok (.iload 4, 2) := by decide +kernel
theorem dX8_beginsWith_21 : decode cX8_beginsWith 21 = .ok (.lshr, 1) := by decide +kernel
theorem dX8_beginsWith_22 : decode cX8_beginsWith 22 = .ok (.lconst 1, 1) := by decide +kernel
theorem dX8_beginsWith_23 : decode cX8_beginsWith 23 = .ok (.land, 1) := by decide +kernel
theorem dX8_beginsWith_24 : decode cX8_beginsWith 24 = .ok (.lconst 1, 1) := by decide +kernel
theorem dX8_beginsWith_25 : decode cX8_beginsWith 25 = .ok (.lcmp, 1) := by decide +kernel
theorem dX8_beginsWith_26 : decode cX8_beginsWith 26 = .ok (.ifCond .ne 22, 3) := by decide +kernel
theorem dX8_beginsWith_29 : decode cX8_beginsWith 29 = .ok (.aload_n 0, 1) := by decide +kernel
theorem dX8_beginsWith_30 : decode cX8_beginsWith 30 = .ok (.iload 4, 2) := by decide +kernel
theorem dX8_beginsWith_32 : decode cX8_beginsWith 32 = .ok (.invokevirtual 70, 3) := by decide +kernel
theorem dX8_beginsWith_35 : decode cX8_beginsWith 35 = .ok (.ifCond .eq 11, 3) := by decide +kernel
theorem dX8_beginsWith_38 : decode cX8_beginsWith 38 = .ok (.iload_n 3, 1) := by decide +kernel
theorem dX8_beginsWith_39 : decode cX8_beginsWith 39 = .ok (.ifCond .eq 7, 3) := by decide +kernel
theorem dX8_beginsWith_42 : decode cX8_beginsWith 42 = .ok (.iconst 1, 1) := by decide +kernel
theorem dX8_beginsWith_43 : decode cX8_beginsWith 43 = .ok (.goto 4, 3) := by decide +kernel
theorem dX8_beginsWith_46 : decode cX8_beginsWith 46 = .ok (.iconst 0, 1) := by decide +kernel
theorem dX8_beginsWith_47 : decode cX8_beginsWith 47 = .ok (.istore_n 3, 1) := by decide +kernel
theorem dX8_beginsWith_48 : decode cX8_beginsWith 48 = .ok (.iinc 4 1, 3) := by decide +kernel
theorem dX8_beginsWith_51 : decode cX8_beginsWith 51 = .ok (.goto (-42), 3) := by decide +kernel
theorem dX8_beginsWith_54 : decode cX8_beginsWith 54 = .ok (.iload_n 3, 1) := by decide +kernel
theorem dX8_beginsWith_55 : decode cX8_beginsWith 55 = .ok (.ireturn, 1) := by decide +kernel
set_option maxRecDepth 20000 in
theorem ggX8_forests_X8_isSet : GoodIn wsX8_forests wsX8_isSet := goodIn_r _ [12, 5, 51, 52, 53, 54, 55, 56, 57, 58, 59, 60, 61, 62, 63, 64, 65, 66, 67, 68, 69, 70] (by decide +kernel) (by decide +kernel)
set_option maxRecDepth 20000 in
theorem gX8_forests_X8_isSet : GoodIn wsX8_forests (wsV RX8 89 RX8 yX8_isSet wsX8_isSet) := goodIn_app (goodIn_of _ (by decide +kernel)) ggX8_forests_X8_isSet
set_option maxRecDepth 20000 in
theorem ggX8_forests_X8_throwing : GoodIn wsX8_forests wsX8_throwing := goodIn_r _ [16, 17, 51, 52, 53, 54, 55, 56, 57, 58, 59, 60, 61, 62, 63, 64, 65, 66, 67, 68, 69, 70] (by decide +kernel) (by decide +kernel)
set_option maxRecDepth 20000 in
theorem gX8_forests_X8_throwing : GoodIn wsX8_forests (wsV RX8 78 RX8 yX8_throwing wsX8_throwing) := goodIn_app (goodIn_of _ (by decide +kernel)) ggX8_forests_X8_throwing
set_option maxRecDepth 20000 in
theorem ggX8_forests_X8_beginsWith : GoodIn wsX8_forests wsX8_beginsWith := goodIn_r _ [21, 5, 22, 23, 24, 11, 25, 26, 3, 27, 28, 29, 30, 31, 6, 7, 32, 33, 1, 51, 52, 53, 54, 55, 56, 57, 58, 59, 60, 61, 62, 63, 64, 65, 66, 67, 68, 69, 70] (by decide +kernel) (by decide +kernel)
set_option maxRecDepth 20000 in
theorem gX8_forests_X8_beginsWith : GoodIn wsX8_forests (wsV RX8 93 RX8 yX8_beginsWith wsX8_beginsWith) := goodIn_app (goodIn_of _ (by decide +kernel)) ggX8_forests_X8_beginsWith
set_option maxRecDepth 20000 in
theorem ggX8_forests_X8_isFirst : GoodIn wsX8_forests wsX8_isFirst := goodIn_r _ [37, 3, 38, 39, 40, 11, 41, 1, 42, 5, 6, 7, 51, 52, 53, 54, 55, 56, 57, 58, 59, 60, 61, 62, 63, 64, 65, 66, 67, 68, 69, 70] (by decide +kernel) (by decide +kernel)
set_option maxRecDepth 20000 in
theorem gX8_forests_X8_isFirst : GoodIn wsX8_forests (wsV RX8 96 RX8 yX8_isFirst wsX8_isFirst) := goodIn_app (goodIn_of _ (by decide +kernel)) ggX8_forests_X8_isFirst
set_option maxRecDepth 20000 in
theorem ggX8_forests_X8_lay : GoodIn wsX8_forests wsX8_lay := goodIn_r _ [46, 4, 51, 52, 53, 54, 55, 56, 57, 58, 59, 60, 61, 62, 63, 64, 65, 66, 67, 68, 69, 70] (by decide +kernel) (by decide +kernel)
set_option maxRecDepth 20000 in
theorem gX8_forests_X8_lay : GoodIn wsX8_forests (wsV RX8 99 RX8 yX8_lay wsX8_lay) := goodIn_app (goodIn_of _ (by decide +kernel)) ggX8_forests_X8_lay
set_option maxRecDepth 20000 in
theorem ggX8_forests_X8_determinant : GoodIn wsX8_forests wsX8_determinant := goodIn_r _ [50, 4, 51, 52, 53, 54, 55, 56, 57, 58, 59, 60, 61, 62, 63, 64, 65, 66, 67, 68, 69, 70] (by decide +kernel) (by decide +kernel)
set_option maxRecDepth 20000 in
theorem gX8_forests_X8_determinant : GoodIn wsX8_forests (wsV RX8 103 RX8 yX8_determinant wsX8_determinant) := goodIn_app (goodIn_of _ (by decide +kernel)) ggX8_forests_X8_determinant
theorem dX8_forests_0 : decode cX8_forests 0 = .ok (.aload_n 0, 1) := by decide +kernel
theorem dX8_forests_1 : decode cX8_forests 1 = .ok (.aload_n 0, 1) := by decide +kernel
theorem dX8_forests_2 : decode cX8_forests 2 = .ok (.lload_n 1, 1) := by decide +kernel
theorem dX8_forests_3 : decode cX8_forests 3 = .ok (.invokevirtual 89, 3) := by decide +kernel
theorem dX8_forests_6 : decode cX8_forests 6 = .ok (.ifCond .ne 7, 3) := by decide +kernel
theorem dX8_forests_9 : decode cX8_forests 9 = .ok (.iconst 1, 1) := by decide +kernel
theorem dX8_forests_10 : decode cX8_forests 10 = .ok (.goto 4, 3) := by decide +kernel
theorem dX8_forests_13 : decode cX8_forests 13 = .ok (.iconst 0, 1) := by decide +kernel
theorem dX8_forests_14 : decode cX8_forests 14 = .ok (.iconst 0, 1) := by decide +kernel
theorem dX8_forests_15 : decode cX8_forests 15 = .ok (.invokevirtual 78, 3) := by decide +kernel
theorem dX8_forests_18 : decode cX8_forests 18 = .ok (.ifCond .eq 5, 3) := by decide +kernel
theorem dX8_forests_21 : decode cX8_forests 21 = .ok (.lconst 0, 1) := by decide +kernel
theorem dX8_forests_22 : decode cX8_forests 22 = .ok (.lreturn, 1) := by decide +kernel
theorem dX8_forests_23 : decode cX8_forests 23 = .ok (.aload_n 0, 1) := by decide +kernel
theorem dX8_forests_24 : decode cX8_forests 24 = .ok (.lload_n 1, 1) := by decide +kernel
theorem dX8_forests_25 : decode cX8_forests 25 = .ok (.invokevirtual 93, 3) := by decide +kernel
theorem dX8_forests_28 : decode cX8_forests 28 = .ok (.ifCond .ne 5, 3) := by decide +kernel
theorem dX8_forests_31 : decode cX8_forests 31 = .ok (.lconst 0, 1) := by decide +kernel
theorem dX8_forests_32 : decode cX8_forests 32 = .ok (.lreturn, 1) := by decide +kernel
theorem dX8_forests_33 : decode cX8_forests 33 = .ok (.iconst 0, 1) := by decide +kernel
theorem dX8_forests_34 : decode cX8_forests 34 = .ok (.istore_n 3, 1) := by decide +kernel
theorem dX8_forests_35 : decode cX8_forests 35 = .ok (.iconst 0, 1) := by decide +kernel
theorem dX8_forests_36 : decode cX8_forests 36 = .ok (.istore 4, 2) := by decide +kernel
theorem dX8_forests_38 : decode cX8_forests 38 = .ok (.iload 4, 2) := by decide +kernel
theorem dX8_forests_40 : decode cX8_forests 40 = .ok (.aload_n 0, 1) := by decide +kernel
theorem dX8_forests_41 : decode cX8_forests 41 = .ok (.getfield 7, 3) := by decide +kernel
theorem dX8_forests_44 : decode cX8_forests 44 = .ok (.if_icmp .ge 70, 3) := by decide +kernel
theorem dX8_forests_47 : decode cX8_forests 47 = .ok (.aload_n 0, 1) := by decide +kernel
theorem dX8_forests_48 : decode cX8_forests 48 = .ok (.getfield 51, 3) := by decide +kernel
theorem dX8_forests_51 : decode cX8_forests 51 = .ok (.iload 4, 2) := by decide +kernel
theorem dX8_forests_53 : decode cX8_forests 53 = .ok (.iconst (-1), 1) := by decide +kernel
theorem dX8_forests_54 : decode cX8_forests 54 = .ok (.iastore, 1) := by decide +kernel
theorem dX8_forests_55 : decode cX8_forests 55 = .ok (.aload_n 0, 1) := by decide +kernel
theorem dX8_forests_56 : decode cX8_forests 56 = .ok (.getfield 27, 3) := by decide +kernel
theorem dX8_forests_59 : decode cX8_forests 59 = .ok (.iload 4, 2) := by decide +kernel
theorem dX8_forests_61 : decode cX8_forests 61 = .ok (.iaload, 1) := by decide +kernel
theorem dX8_forests_62 : decode cX8_forests 62 = .ok (.iload 4, 2) := by decide +kernel
theorem dX8_forests_64 : decode cX8_forests 64 = .ok (.if_icmp .eq 6, 3) := by decide +kernel
theorem dX8_forests_67 : decode cX8_forests 67 = .ok (.goto 41, 3) := by decide +kernel
theorem dX8_forests_70 : decode cX8_forests 70 = .ok (.aload_n 0, 1) := by decide +kernel
theorem dX8_forests_71 : decode cX8_forests 71 = .ok (.getfield 51, 3) := by decide +kernel
theorem dX8_forests_74 : decode cX8_forests 74 = .ok (.iload 4, 2) := by decide +kernel
theorem dX8_forests_76 : decode cX8_forests 76 = .ok (.aload_n 0, 1) := by decide +kernel
theorem dX8_forests_77 : decode cX8_forests 77 = .ok (.iload 4, 2) := by decide +kernel
theorem dX8_forests_79 : decode cX8_forests 79 = .ok (.invokevirtual 96, 3) := by decide +kernel
theorem dX8_forests_82 : decode cX8_forests 82 = .ok (.ifCond .eq 7, 3) := by decide +kernel
theorem dX8_forests_85 : decode cX8_forests 85 = .ok (.iconst (-1), 1) := by decide +kernel
theorem dX8_forests_86 : decode cX8_forests 86 = .ok (.goto 4, 3) := by decide +kernel
theorem dX8_forests_89 : decode cX8_forests 89 = .ok (.iload_n 3, 1) := by decide +kernel
theorem dX8_forests_90 : decode cX8_forests 90 = .ok (.iastore, 1) := by decide +kernel
theorem dX8_forests_91 : decode cX8_forests 91 = .ok (.iload_n 3, 1) := by decide +kernel
theorem dX8_forests_92 : decode cX8_forests 92 = .ok (.aload_n 0, 1) := by decide +kernel
theorem dX8_forests_93 : decode cX8_forests 93 = .ok (.iload 4, 2) := by decide +kernel
theorem dX8_forests_95 : decode cX8_forests 95 = .ok (.invokevirtual 96, 3) := by decide +kernel
theorem dX8_forests_98 : decode cX8_forests 98 = .ok (.ifCond .eq 7, 3) := by decide +kernel
theorem dX8_forests_101 : decode cX8_forests 101 = .ok (.iconst 0, 1) := by decide +kernel
theorem dX8_forests_102 : decode cX8_forests 102 = .ok (.goto 4, 3) := by decide +kernel
theorem dX8_forests_105 : decode cX8_forests 105 = .ok (.iconst 1, 1) := by decide +kernel
theorem dX8_forests_106 : decode cX8_forests 106 = .ok (.iadd, 1) := by decide +kernel
theorem dX8_forests_107 : decode cX8_forests 107 = .ok (.istore_n 3, 1) := by decide +kernel
theorem dX8_forests_108 : decode cX8_forests 108 = .ok (.iinc 4 1, 3) := by decide +kernel
theorem dX8_forests_111 : decode cX8_forests 111 = .ok (.goto (-73), 3) := by decide +kernel
theorem dX8_forests_114 : decode cX8_forests 114 = .ok (.iconst 0, 1) := by decide +kernel
theorem dX8_forests_115 : decode cX8_forests 115 = .ok (.istore 4, 2) := by decide +kernel
theorem dX8_forests_117 : decode cX8_forests 117 = .ok (.iload 4, 2) := by decide +kernel
theorem dX8_forests_119 : decode cX8_forests 119 = .ok (.sipush 256, 3) := by decide +kernel
theorem dX8_forests_122 : decode cX8_forests 122 = .ok (.if_icmp .ge 17, 3) := by decide +kernel
theorem dX8_forests_125 : decode cX8_forests 125 = .ok (.aload_n 0, 1) := by decide +kernel
theorem dX8_forests_126 : decode cX8_forests 126 = .ok (.getfield 48, 3) := by decide +kernel
theorem dX8_forests_129 : decode cX8_forests 129 = .ok (.iload 4, 2) := by decide +kernel
theorem dX8_forests_131 : decode cX8_forests 131 = .ok (.lconst 0, 1) := by decide +kernel
theorem dX8_forests_132 : decode cX8_forests 132 = .ok (.lastore, 1) := by decide +kernel
theorem dX8_forests_133 : decode cX8_forests 133 = .ok (.iinc 4 1, 3) := by decide +kernel
theorem dX8_forests_136 : decode cX8_forests 136 = .ok (.goto (-19), 3) := by decide +kernel
theorem dX8_forests_139 : decode cX8_forests 139 = .ok (.iconst 0, 1) := by decide +kernel
theorem dX8_forests_140 : decode cX8_forests 140 = .ok (.istore 4, 2) := by decide +kernel
theorem dX8_forests_142 : decode cX8_forests 142 = .ok (.iload 4, 2) := by decide +kernel
theorem dX8_forests_144 : decode cX8_forests 144 = .ok (.aload_n 0, 1) := by decide +kernel
theorem dX8_forests_145 : decode cX8_forests 145 = .ok (.getfield 61, 3) := by decide +kernel
theorem dX8_forests_148 : decode cX8_forests 148 = .ok (.if_icmp .ge 65, 3) := by decide +kernel
theorem dX8_forests_151 : decode cX8_forests 151 = .ok (.aload_n 0, 1) := by decide +kernel
theorem dX8_forests_152 : decode cX8_forests 152 = .ok (.getfield 27, 3) := by decide +kernel
theorem dX8_forests_155 : decode cX8_forests 155 = .ok (.aload_n 0, 1) := by decide +kernel
theorem dX8_forests_156 : decode cX8_forests 156 = .ok (.getfield 13, 3) := by decide +kernel
theorem dX8_forests_159 : decode cX8_forests 159 = .ok (.iload 4, 2) := by decide +kernel
theorem dX8_forests_161 : decode cX8_forests 161 = .ok (.iaload, 1) := by decide +kernel
theorem dX8_forests_162 : decode cX8_forests 162 = .ok (.iaload, 1) := by decide +kernel
theorem dX8_forests_163 : decode cX8_forests 163 = .ok (.istore 5, 2) := by decide +kernel
theorem dX8_forests_165 : decode cX8_forests 165 = .ok (.aload_n 0, 1) := by decide +kernel
theorem dX8_forests_166 : decode cX8_forests 166 = .ok (.getfield 27, 3) := by decide +kernel
theorem dX8_forests_169 : decode cX8_forests 169 = .ok (.aload_n 0, 1) := by decide +kernel
theorem dX8_forests_170 : decode cX8_forests 170 = .ok (.getfield 17, 3) := by decide +kernel
theorem dX8_forests_173 : decode cX8_forests 173 = .ok (.iload 4, 2) := by decide +kernel
theorem dX8_forests_175 : decode cX8_forests 175 = .ok (.iaload, 1) := by decide +kernel
theorem dX8_forests_176 : decode cX8_forests 176 = .ok (.iaload, 1) := by decide +kernel
theorem dX8_forests_177 : decode cX8_forests 177 = .ok (.istore 6, 2) := by decide +kernel
theorem dX8_forests_179 : decode cX8_forests 179 = .ok (.iload 5, 2) := by decide +kernel
theorem dX8_forests_181 : decode cX8_forests 181 = .ok (.iload 6, 2) := by decide +kernel
theorem dX8_forests_183 : decode cX8_forests 183 = .ok (.if_icmp .ne 6, 3) := by decide +kernel
theorem dX8_forests_186 : decode cX8_forests 186 = .ok (.goto 21, 3) := by decide +kernel
theorem dX8_forests_189 : decode cX8_forests 189 = .ok (.aload_n 0, 1) := by decide +kernel
theorem dX8_forests_190 : decode cX8_forests 190 = .ok (.aload_n 0, 1) := by decide +kernel
theorem dX8_forests_191 : decode cX8_forests 191 = .ok (.getfield 51, 3) := by decide +kernel
theorem dX8_forests_194 : decode cX8_forests 194 = .ok (.iload 5, 2) := by decide +kernel
theorem dX8_forests_196 : decode cX8_forests 196 = .ok (.iaload, 1) := by decide +kernel
theorem dX8_forests_197 : decode cX8_forests 197 = .ok (.aload_n 0, 1) := by decide +kernel
theorem dX8_forests_198 : decode cX8_forests 198 = .ok (.getfield 51, 3) := by decide +kernel
theorem dX8_forests_201 : decode cX8_forests 201 = .ok (.iload 6, 2) := by decide +kernel
theorem dX8_forests_203 : decode cX8_forests 203 = .ok (.iaload, 1) := by decide +kernel
theorem dX8_forests_204 : decode cX8_forests 204 = .ok (.invokevirtual 99, 3) := by decide +kernel
theorem dX8_forests_207 : decode cX8_forests 207 = .ok (.iinc 4 1, 3) := by decide +kernel
theorem dX8_forests_210 : decode cX8_forests 210 = .ok (.goto (-68), 3) := by decide +kernel
theorem dX8_forests_213 : decode cX8_forests 213 = .ok (.aload_n 0, 1) := by decide +kernel
theorem dX8_forests_214 : decode cX8_forests 214 = .ok (.iload_n 3, 1) := by decide +kernel
theorem dX8_forests_215 : decode cX8_forests 215 = .ok (.invokevirtual 103, 3) := by decide +kernel
theorem dX8_forests_218 : decode cX8_forests 218 = .ok (.lreturn, 1) := by decide +kernel
set_option maxRecDepth 20000 in
theorem ggX8_isFirst_X8_hang : GoodIn wsX8_isFirst wsX8_hang := goodIn_r _ [6, 7, 8, 9, 10, 11, 12, 13, 14, 15, 16, 17, 18, 19, 20, 21, 22, 23, 24, 25, 26, 27, 28, 29, 30, 31] (by decide +kernel) (by decide +kernel)
set_option maxRecDepth 20000 in
theorem gX8_isFirst_X8_hang : GoodIn wsX8_isFirst (wsV RX8 107 RX8 yX8_hang wsX8_hang) := goodIn_app (goodIn_of _ (by decide +kernel)) ggX8_isFirst_X8_hang
theorem dX8_isFirst_0 : decode cX8_isFirst 0 = .ok (.iconst 1, 1) := by decide +kernel
theorem dX8_isFirst_1 : decode cX8_isFirst 1 = .ok (.istore_n 2, 1) := by decide +kernel
theorem dX8_isFirst_2 : decode cX8_isFirst 2 = .ok (.iconst 0, 1) := by decide +kernel
theorem dX8_isFirst_3 : decode cX8_isFirst 3 = .ok (.istore_n 3, 1) := by decide +kernel
theorem dX8_isFirst_4 : decode cX8_isFirst 4 = .ok (.iload_n 3, 1) := by decide +kernel
theorem dX8_isFirst_5 : decode cX8_isFirst 5 = .ok (.iload_n 1, 1) := by decide +kernel
theorem dX8_isFirst_6 : decode cX8_isFirst 6 = .ok (.if_icmp .ge 38, 3) := by decide +kernel
theorem dX8_isFirst_9 : decode cX8_isFirst 9 = .ok (.iload_n 2, 1) := by decide +kernel
theorem dX8_isFirst_10 : decode cX8_isFirst 10 = .ok (.ifCond .eq 26, 3) := by decide +kernel
theorem dX8_isFirst_13 : decode cX8_isFirst 13 = .ok (.aload_n 0, 1) := by decide +kernel
theorem dX8_isFirst_14 : decode cX8_isFirst 14 = .ok (.getfield 27, 3) := by decide +kernel
theorem dX8_isFirst_17 : decode cX8_isFirst 17 = .ok (.iload_n 3, 1) := by decide +kernel
theorem dX8_isFirst_18 : decode cX8_isFirst 18 = .ok (.iaload, 1) := by decide +kernel
theorem dX8_isFirst_19 : decode cX8_isFirst 19 = .ok (.iload_n 3, 1) := by decide +kernel
theorem dX8_isFirst_20 : decode cX8_isFirst 20 = .ok (.if_icmp .ne 12, 3) := by decide +kernel
theorem dX8_isFirst_23 : decode cX8_isFirst 23 = .ok (.aload_n 0, 1) := by decide +kernel
theorem dX8_isFirst_24 : decode cX8_isFirst 24 = .ok (.iload_n 3, 1) := by decide +kernel
theorem dX8_isFirst_25 : decode cX8_isFirst 25 = .ok (.iload_n 1, 1) := by decide +kernel
theorem dX8_isFirst_26 : decode cX8_isFirst 26 = .ok (.invokevirtual 107, 3) := by decide +kernel
theorem dX8_isFirst_29 : decode cX8_isFirst 29 = .ok (.ifCond .ne 7, 3) := by decide +kernel
theorem dX8_isFirst_32 : decode cX8_isFirst 32 = .ok (.iconst 1, 1) := by decide +kernel
theorem dX8_isFirst_33 : decode cX8_isFirst 33 = .ok (.goto 4, 3) := by decide +kernel
theorem dX8_isFirst_36 : decode cX8_isFirst 36 = .ok (.iconst 0, 1) := by decide +kernel
theorem dX8_isFirst_37 : decode cX8_isFirst 37 = .ok (.istore_n 2, 1) := by decide +kernel
theorem dX8_isFirst_38 : decode cX8_isFirst 38 = .ok (.iinc 3 1, 3) := by decide +kernel
theorem dX8_isFirst_41 : decode cX8_isFirst 41 = .ok (.goto (-37), 3) := by decide +kernel
theorem dX8_isFirst_44 : decode cX8_isFirst 44 = .ok (.iload_n 2, 1) := by decide +kernel
theorem dX8_isFirst_45 : decode cX8_isFirst 45 = .ok (.ireturn, 1) := by decide +kernel
theorem dX8_hang_0 : decode cX8_hang 0 = .ok (.iconst 0, 1) := by decide +kernel
theorem dX8_hang_1 : decode cX8_hang 1 = .ok (.istore_n 3, 1) := by decide +kernel
theorem dX8_hang_2 : decode cX8_hang 2 = .ok (.iload_n 3, 1) := by decide +kernel
theorem dX8_hang_3 : decode cX8_hang 3 = .ok (.aload_n 0, 1) := by decide +kernel
theorem dX8_hang_4 : decode cX8_hang 4 = .ok (.getfield 7, 3) := by decide +kernel
theorem dX8_hang_7 : decode cX8_hang 7 = .ok (.if_icmp .ge 25, 3) := by decide +kernel
theorem dX8_hang_10 : decode cX8_hang 10 = .ok (.aload_n 0, 1) := by decide +kernel
theorem dX8_hang_11 : decode cX8_hang 11 = .ok (.getfield 54, 3) := by decide +kernel
theorem dX8_hang_14 : decode cX8_hang 14 = .ok (.iload_n 3, 1) := by decide +kernel
theorem dX8_hang_15 : decode cX8_hang 15 = .ok (.iload_n 3, 1) := by decide +kernel
theorem dX8_hang_16 : decode cX8_hang 16 = .ok (.iload_n 1, 1) := by decide +kernel
theorem dX8_hang_17 : decode cX8_hang 17 = .ok (.if_icmp .ne 7, 3) := by decide +kernel
theorem dX8_hang_20 : decode cX8_hang 20 = .ok (.iconst 1, 1) := by decide +kernel
theorem dX8_hang_21 : decode cX8_hang 21 = .ok (.goto 4, 3) := by decide +kernel
theorem dX8_hang_24 : decode cX8_hang 24 = .ok (.iconst 0, 1) := by decide +kernel
theorem dX8_hang_25 : decode cX8_hang 25 = .ok (.bastore, 1) := by decide +kernel
theorem dX8_hang_26 : decode cX8_hang 26 = .ok (.iinc 3 1, 3) := by decide +kernel
theorem dX8_hang_29 : decode cX8_hang 29 = .ok (.goto (-27), 3) := by decide +kernel
theorem dX8_hang_32 : decode cX8_hang 32 = .ok (.iconst 1, 1) := by decide +kernel
theorem dX8_hang_33 : decode cX8_hang 33 = .ok (.istore_n 3, 1) := by decide +kernel
theorem dX8_hang_34 : decode cX8_hang 34 = .ok (.iload_n 3, 1) := by decide +kernel
theorem dX8_hang_35 : decode cX8_hang 35 = .ok (.ifCond .eq 84, 3) := by decide +kernel
theorem dX8_hang_38 : decode cX8_hang 38 = .ok (.iconst 0, 1) := by decide +kernel
theorem dX8_hang_39 : decode cX8_hang 39 = .ok (.istore_n 3, 1) := by decide +kernel
theorem dX8_hang_40 : decode cX8_hang 40 = .ok (.iconst 0, 1) := by decide +kernel
theorem dX8_hang_41 : decode cX8_hang 41 = .ok (.istore 4, 2) := by decide +kernel
theorem dX8_hang_43 : decode cX8_hang 43 = .ok (.iload 4, 2) := by decide +kernel
theorem dX8_hang_45 : decode cX8_hang 45 = .ok (.aload_n 0, 1) := by decide +kernel
theorem dX8_hang_46 : decode cX8_hang 46 = .ok (.getfield 61, 3) := by decide +kernel
theorem dX8_hang_49 : decode cX8_hang 49 = .ok (.if_icmp .ge 67, 3) := by decide +kernel
theorem dX8_hang_52 : decode cX8_hang 52 = .ok (.aload_n 0, 1) := by decide +kernel
theorem dX8_hang_53 : decode cX8_hang 53 = .ok (.getfield 54, 3) := by decide +kernel
theorem dX8_hang_56 : decode cX8_hang 56 = .ok (.aload_n 0, 1) := by decide +kernel
theorem dX8_hang_57 : decode cX8_hang 57 = .ok (.getfield 13, 3) := by decide +kernel
theorem dX8_hang_60 : decode cX8_hang 60 = .ok (.iload 4, 2) := by decide +kernel
theorem dX8_hang_62 : decode cX8_hang 62 = .ok (.iaload, 1) := by decide +kernel
theorem dX8_hang_63 : decode cX8_hang 63 = .ok (.baload, 1) := by decide +kernel
theorem dX8_hang_64 : decode cX8_hang 64 = .ok (.aload_n 0, 1) := by decide +kernel
theorem dX8_hang_65 : decode cX8_hang 65 = .ok (.getfield 54, 3) := by decide +kernel
theorem dX8_hang_68 : decode cX8_hang 68 = .ok (.aload_n 0, 1) := by decide +kernel
theorem dX8_hang_69 : decode cX8_hang 69 = .ok (.getfield 17, 3) := by decide +kernel
theorem dX8_hang_72 : decode cX8_hang 72 = .ok (.iload 4, 2) := by decide +kernel
theorem dX8_hang_74 : decode cX8_hang 74 = .ok (.iaload, 1) := by decide +kernel
theorem dX8_hang_75 : decode cX8_hang 75 = .ok (.baload, 1) := by decide +kernel
theorem dX8_hang_76 : decode cX8_hang 76 = .ok (.if_icmp .ne 6, 3) := by decide +kernel
theorem dX8_hang_79 : decode cX8_hang 79 = .ok (.goto 31, 3) := by decide +kernel
theorem dX8_hang_82 : decode cX8_hang 82 = .ok (.aload_n 0, 1) := by decide +kernel
theorem dX8_hang_83 : decode cX8_hang 83 = .ok (.getfield 54, 3) := by decide +kernel
theorem dX8_hang_86 : decode cX8_hang 86 = .ok (.aload_n 0, 1) := by decide +kernel
theorem dX8_hang_87 : decode cX8_hang 87 = .ok (.getfield 13, 3) := by decide +kernel
theorem dX8_hang_90 : decode cX8_hang 90 = .ok (.iload 4, 2) := by decide +kernel
theorem dX8_hang_92 : decode cX8_hang 92 = .ok (.iaload, 1) := by decide +kernel
theorem dX8_hang_93 : decode cX8_hang 93 = .ok (.iconst 1, 1) := by decide +kernel
theorem dX8_hang_94 : decode cX8_hang 94 = .ok (.bastore, 1) := by decide +kernel
theorem dX8_hang_95 : decode cX8_hang 95 = .ok (.aload_n 0, 1) := by decide +kernel
theorem dX8_hang_96 : decode cX8_hang 96 = .ok (.getfield 54, 3) := by decide +kernel
theorem dX8_hang_99 : decode cX8_hang 99 = .ok (.aload_n 0, 1) := by decide +kernel
theorem dX8_hang_100 : decode cX8_hang 100 = .ok (.getfield 17, 3) := by decide +kernel
theorem dX8_hang_103 : decode cX8_hang 103 = .ok (.iload 4, 2) := by decide +kernel
theorem dX8_hang_105 : decode cX8_hang 105 = .ok (.iaload, 1) := by decide +kernel
theorem dX8_hang_106 : decode cX8_hang 106 = .ok (.iconst 1, 1) := by decide +kernel
theorem dX8_hang_107 : decode cX8_hang 107 = .ok (.bastore, 1) := by decide +kernel
theorem dX8_hang_108 : decode cX8_hang 108 = .ok (.iconst 1, 1) := by decide +kernel
theorem dX8_hang_109 : decode cX8_hang 109 = .ok (.istore_n 3, 1) := by decide +kernel
theorem dX8_hang_110 : decode cX8_hang 110 = .ok (.iinc 4 1, 3) := by decide +kernel
theorem dX8_hang_113 : decode cX8_hang 113 = .ok (.goto (-70), 3) := by decide +kernel
theorem dX8_hang_116 : decode cX8_hang 116 = .ok (.goto (-82), 3) := by decide +kernel
theorem dX8_hang_119 : decode cX8_hang 119 = .ok (.aload_n 0, 1) := by decide +kernel
theorem dX8_hang_120 : decode cX8_hang 120 = .ok (.getfield 54, 3) := by decide +kernel
theorem dX8_hang_123 : decode cX8_hang 123 = .ok (.iload_n 2, 1) := by decide +kernel
theorem dX8_hang_124 : decode cX8_hang 124 = .ok (.baload, 1) := by decide +kernel
theorem dX8_hang_125 : decode cX8_hang 125 = .ok (.ireturn, 1) := by decide +kernel
theorem dX8_lay_0 : decode cX8_lay 0 = .ok (.iload_n 1, 1) := by decide +kernel
theorem dX8_lay_1 : decode cX8_lay 1 = .ok (.ifCond .lt 16, 3) := by decide +kernel
theorem dX8_lay_4 : decode cX8_lay 4 = .ok (.aload_n 0, 1) := by decide +kernel
theorem dX8_lay_5 : decode cX8_lay 5 = .ok (.getfield 48, 3) := by decide +kernel
theorem dX8_lay_8 : decode cX8_lay 8 = .ok (.bipush 17, 2) := by decide +kernel
theorem dX8_lay_10 : decode cX8_lay 10 = .ok (.iload_n 1, 1) := by decide +kernel
theorem dX8_lay_11 : decode cX8_lay 11 = .ok (.imul, 1) := by decide +kernel
theorem dX8_lay_12 : decode cX8_lay 12 = .ok (.dup2, 1) := by decide +kernel
theorem dX8_lay_13 : decode cX8_lay 13 = .ok (.laload, 1) := by decide +kernel
theorem dX8_lay_14 : decode cX8_lay 14 = .ok (.lconst 1, 1) := by decide +kernel
theorem dX8_lay_15 : decode cX8_lay 15 = .ok (.ladd, 1) := by decide +kernel
theorem dX8_lay_16 : decode cX8_lay 16 = .ok (.lastore, 1) := by decide +kernel
theorem dX8_lay_17 : decode cX8_lay 17 = .ok (.iload_n 2, 1) := by decide +kernel
theorem dX8_lay_18 : decode cX8_lay 18 = .ok (.ifCond .lt 16, 3) := by decide +kernel
theorem dX8_lay_21 : decode cX8_lay 21 = .ok (.aload_n 0, 1) := by decide +kernel
theorem dX8_lay_22 : decode cX8_lay 22 = .ok (.getfield 48, 3) := by decide +kernel
theorem dX8_lay_25 : decode cX8_lay 25 = .ok (.bipush 17, 2) := by decide +kernel
theorem dX8_lay_27 : decode cX8_lay 27 = .ok (.iload_n 2, 1) := by decide +kernel
theorem dX8_lay_28 : decode cX8_lay 28 = .ok (.imul, 1) := by decide +kernel
theorem dX8_lay_29 : decode cX8_lay 29 = .ok (.dup2, 1) := by decide +kernel
theorem dX8_lay_30 : decode cX8_lay 30 = .ok (.laload, 1) := by decide +kernel
theorem dX8_lay_31 : decode cX8_lay 31 = .ok (.lconst 1, 1) := by decide +kernel
theorem dX8_lay_32 : decode cX8_lay 32 = .ok (.ladd, 1) := by decide +kernel
theorem dX8_lay_33 : decode cX8_lay 33 = .ok (.lastore, 1) := by decide +kernel
theorem dX8_lay_34 : decode cX8_lay 34 = .ok (.iload_n 1, 1) := by decide +kernel
theorem dX8_lay_35 : decode cX8_lay 35 = .ok (.ifCond .lt 7, 3) := by decide +kernel
theorem dX8_lay_38 : decode cX8_lay 38 = .ok (.iload_n 2, 1) := by decide +kernel
theorem dX8_lay_39 : decode cX8_lay 39 = .ok (.ifCond .ge 4, 3) := by decide +kernel
theorem dX8_lay_42 : decode cX8_lay 42 = .ok (.return_, 1) := by decide +kernel
theorem dX8_lay_43 : decode cX8_lay 43 = .ok (.aload_n 0, 1) := by decide +kernel
theorem dX8_lay_44 : decode cX8_lay 44 = .ok (.getfield 48, 3) := by decide +kernel
theorem dX8_lay_47 : decode cX8_lay 47 = .ok (.bipush 16, 2) := by decide +kernel
theorem dX8_lay_49 : decode cX8_lay 49 = .ok (.iload_n 1, 1) := by decide +kernel
theorem dX8_lay_50 : decode cX8_lay 50 = .ok (.imul, 1) := by decide +kernel
theorem dX8_lay_51 : decode cX8_lay 51 = .ok (.iload_n 2, 1) := by decide +kernel
theorem dX8_lay_52 : decode cX8_lay 52 = .ok (.iadd, 1) := by decide +kernel
theorem dX8_lay_53 : decode cX8_lay 53 = .ok (.dup2, 1) := by decide +kernel
theorem dX8_lay_54 : decode cX8_lay 54 = .ok (.laload, 1) := by decide +kernel
theorem dX8_lay_55 : decode cX8_lay 55 = .ok (.lconst 1, 1) := by decide +kernel
theorem dX8_lay_56 : decode cX8_lay 56 = .ok (.lsub, 1) := by decide +kernel
theorem dX8_lay_57 : decode cX8_lay 57 = .ok (.lastore, 1) := by decide +kernel
theorem dX8_lay_58 : decode cX8_lay 58 = .ok (.aload_n 0, 1) := by decide +kernel
theorem dX8_lay_59 : decode cX8_lay 59 = .ok (.getfield 48, 3) := by decide +kernel
theorem dX8_lay_62 : decode cX8_lay 62 = .ok (.bipush 16, 2) := by decide +kernel
theorem dX8_lay_64 : decode cX8_lay 64 = .ok (.iload_n 2, 1) := by decide +kernel
theorem dX8_lay_65 : decode cX8_lay 65 = .ok (.imul, 1) := by decide +kernel
theorem dX8_lay_66 : decode cX8_lay 66 = .ok (.iload_n 1, 1) := by decide +kernel
theorem dX8_lay_67 : decode cX8_lay 67 = .ok (.iadd, 1) := by decide +kernel
theorem dX8_lay_68 : decode cX8_lay 68 = .ok (.dup2, 1) := by decide +kernel
theorem dX8_lay_69 : decode cX8_lay 69 = .ok (.laload, 1) := by decide +kernel
theorem dX8_lay_70 : decode cX8_lay 70 = .ok (.lconst 1, 1) := by decide +kernel
theorem dX8_lay_71 : decode cX8_lay 71 = .ok (.lsub, 1) := by decide +kernel
theorem dX8_lay_72 : decode cX8_lay 72 = .ok (.lastore, 1) := by decide +kernel
theorem dX8_lay_73 : decode cX8_lay 73 = .ok (.return_, 1) := by decide +kernel
theorem dX8_determinant_0 : decode cX8_determinant 0 = .ok (.lconst 1, 1) := by decide +kernel
theorem dX8_determinant_1 : decode cX8_determinant 1 = .ok (.lstore_n 2, 1) := by decide +kernel
theorem dX8_determinant_2 : decode cX8_determinant 2 = .ok (.iconst 0, 1) := by decide +kernel
theorem dX8_determinant_3 : decode cX8_determinant 3 = .ok (.istore 4, 2) := by decide +kernel
theorem dX8_determinant_5 : decode cX8_determinant 5 = .ok (.iload 4, 2) := by decide +kernel
theorem dX8_determinant_7 : decode cX8_determinant 7 = .ok (.iload_n 1, 1) := by decide +kernel
theorem dX8_determinant_8 : decode cX8_determinant 8 = .ok (.if_icmp .ge 119, 3) := by decide +kernel
theorem dX8_determinant_11 : decode cX8_determinant 11 = .ok (.aload_n 0, 1) := by decide +kernel
theorem dX8_determinant_12 : decode cX8_determinant 12 = .ok (.getfield 48, 3) := by decide +kernel
theorem dX8_determinant_15 : decode cX8_determinant 15 = .ok (.bipush 17, 2) := by decide +kernel
theorem dX8_determinant_17 : decode cX8_determinant 17 = .ok (.iload 4, 2) := by decide +kernel
theorem dX8_determinant_19 : decode cX8_determinant 19 = .ok (.imul, 1) := by decide +kernel
theorem dX8_determinant_20 : decode cX8_determinant 20 = .ok (.laload, 1) := by decide +kernel
theorem dX8_determinant_21 : decode cX8_determinant 21 = .ok (.lstore 5, 2) := by decide +kernel
theorem dX8_determinant_23 : decode cX8_determinant 23 = .ok (.iload 4, 2) := by decide +kernel
theorem dX8_determinant_25 : decode cX8_determinant 25 = .ok (.iconst 1, 1) := by decide +kernel
theorem dX8_determinant_26 : decode cX8_determinant 26 = .ok (.iadd, 1) := by decide +kernel
theorem dX8_determinant_27 : decode cX8_determinant 27 = .ok (.istore 7, 2) := by decide +kernel
theorem dX8_determinant_29 : decode cX8_determinant 29 = .ok (.iload 7, 2) := by decide +kernel
theorem dX8_determinant_31 : decode cX8_determinant 31 = .ok (.iload_n 1, 1) := by decide +kernel
theorem dX8_determinant_32 : decode cX8_determinant 32 = .ok (.if_icmp .ge 86, 3) := by decide +kernel
theorem dX8_determinant_35 : decode cX8_determinant 35 = .ok (.iload 4, 2) := by decide +kernel
theorem dX8_determinant_37 : decode cX8_determinant 37 = .ok (.iconst 1, 1) := by decide +kernel
theorem dX8_determinant_38 : decode cX8_determinant 38 = .ok (.iadd, 1) := by decide +kernel
theorem dX8_determinant_39 : decode cX8_determinant 39 = .ok (.istore 8, 2) := by decide +kernel
theorem dX8_determinant_41 : decode cX8_determinant 41 = .ok (.iload 8, 2) := by decide +kernel
theorem dX8_determinant_43 : decode cX8_determinant 43 = .ok (.iload_n 1, 1) := by decide +kernel
theorem dX8_determinant_44 : decode cX8_determinant 44 = .ok (.if_icmp .ge 68, 3) := by decide +kernel
theorem dX8_determinant_47 : decode cX8_determinant 47 = .ok (.aload_n 0, 1) := by decide +kernel
theorem dX8_determinant_48 : decode cX8_determinant 48 = .ok (.getfield 48, 3) := by decide +kernel
theorem dX8_determinant_51 : decode cX8_determinant 51 = .ok (.bipush 16, 2) := by decide +kernel
theorem dX8_determinant_53 : decode cX8_determinant 53 = .ok (.iload 7, 2) := by decide +kernel
theorem dX8_determinant_55 : decode cX8_determinant 55 = .ok (.imul, 1) := by decide +kernel
theorem dX8_determinant_56 : decode cX8_determinant 56 = .ok (.iload 8, 2) := by decide +kernel
theorem dX8_determinant_58 : decode cX8_determinant 58 = .ok (.iadd, 1) := by decide +kernel
theorem dX8_determinant_59 : decode cX8_determinant 59 = .ok (.aload_n 0, 1) := by decide +kernel
theorem dX8_determinant_60 : decode cX8_determinant 60 = .ok (.getfield 48, 3) := by decide +kernel
theorem dX8_determinant_63 : decode cX8_determinant 63 = .ok (.bipush 16, 2) := by decide +kernel
theorem dX8_determinant_65 : decode cX8_determinant 65 = .ok (.iload 7, 2) := by decide +kernel
theorem dX8_determinant_67 : decode cX8_determinant 67 = .ok (.imul, 1) := by decide +kernel
theorem dX8_determinant_68 : decode cX8_determinant 68 = .ok (.iload 8, 2) := by decide +kernel
theorem dX8_determinant_70 : decode cX8_determinant 70 = .ok (.iadd, 1) := by decide +kernel
theorem dX8_determinant_71 : decode cX8_determinant 71 = .ok (.laload, 1) := by decide +kernel
theorem dX8_determinant_72 : decode cX8_determinant 72 = .ok (.lload 5, 2) := by decide +kernel
theorem dX8_determinant_74 : decode cX8_determinant 74 = .ok (.lmul, 1) := by decide +kernel
theorem dX8_determinant_75 : decode cX8_determinant 75 = .ok (.aload_n 0, 1) := by decide +kernel
theorem dX8_determinant_76 : decode cX8_determinant 76 = .ok (.getfield 48, 3) := by decide +kernel
theorem dX8_determinant_79 : decode cX8_determinant 79 = .ok (.bipush 16, 2) := by decide +kernel
theorem dX8_determinant_81 : decode cX8_determinant 81 = .ok (.iload 7, 2) := by decide +kernel
theorem dX8_determinant_83 : decode cX8_determinant 83 = .ok (.imul, 1) := by decide +kernel
theorem dX8_determinant_84 : decode cX8_determinant 84 = .ok (.iload 4, 2) := by decide +kernel
theorem dX8_determinant_86 : decode cX8_determinant 86 = .ok (.iadd, 1) := by decide +kernel
theorem dX8_determinant_87 : decode cX8_determinant 87 = .ok (.laload, 1) := by decide +kernel
theorem dX8_determinant_88 : decode cX8_determinant 88 = .ok (.aload_n 0, 1) := by decide +kernel
theorem dX8_determinant_89 : decode cX8_determinant 89 = .ok (.getfield 48, 3) := by decide +kernel
theorem dX8_determinant_92 : decode cX8_determinant 92 = .ok (.bipush 16, 2) := by decide +kernel
theorem dX8_determinant_94 : decode cX8_determinant 94 = .ok (.iload 4, 2) := by decide +kernel
theorem dX8_determinant_96 : decode cX8_determinant 96 = .ok (.imul, 1) := by decide +kernel
theorem dX8_determinant_97 : decode cX8_determinant 97 = .ok (.iload 8, 2) := by decide +kernel
theorem dX8_determinant_99 : decode cX8_determinant 99 = .ok (.iadd, 1) := by decide +kernel
theorem dX8_determinant_100 : decode cX8_determinant 100 = .ok (.laload, 1) := by decide +kernel
theorem dX8_determinant_101 : decode cX8_determinant 101 = .ok (.lmul, 1) := by decide +kernel
theorem dX8_determinant_102 : decode cX8_determinant 102 = .ok (.lsub, 1) := by decide +kernel
theorem dX8_determinant_103 : decode cX8_determinant 103 = .ok (.lload_n 2, 1) := by decide +kernel
theorem dX8_determinant_104 : decode cX8_determinant 104 = .ok (.ldiv, 1) := by decide +kernel
theorem dX8_determinant_105 : decode cX8_determinant 105 = .ok (.lastore, 1) := by decide +kernel
theorem dX8_determinant_106 : decode cX8_determinant 106 = .ok (.iinc 8 1, 3) := by decide +kernel
theorem dX8_determinant_109 : decode cX8_determinant 109 = .ok (.goto (-68), 3) := by decide +kernel
theorem dX8_determinant_112 : decode cX8_determinant 112 = .ok (.iinc 7 1, 3) := by decide +kernel
theorem dX8_determinant_115 : decode cX8_determinant 115 = .ok (.goto (-86), 3) := by decide +kernel
theorem dX8_determinant_118 : decode cX8_determinant 118 = .ok (.lload 5, 2) := by decide +kernel
theorem dX8_determinant_120 : decode cX8_determinant 120 = .ok (.lstore_n 2, 1) := by decide +kernel
theorem dX8_determinant_121 : decode cX8_determinant 121 = .ok (.iinc 4 1, 3) := by decide +kernel
theorem dX8_determinant_124 : decode cX8_determinant 124 = .ok (.goto (-119), 3) := by decide +kernel
theorem dX8_determinant_127 : decode cX8_determinant 127 = .ok (.lload_n 2, 1) := by decide +kernel
theorem dX8_determinant_128 : decode cX8_determinant 128 = .ok (.lreturn, 1) := by decide +kernel
set_option maxRecDepth 20000 in
theorem ggX8_lightest_X8_isSet : GoodIn wsX8_lightest wsX8_isSet := goodIn_r _ [11, 2, 38, 39, 40, 41, 42, 43, 44, 45, 46, 47, 48, 49, 50, 51, 52, 53, 54, 55, 56, 57] (by decide +kernel) (by decide +kernel)
set_option maxRecDepth 20000 in
theorem gX8_lightest_X8_isSet : GoodIn wsX8_lightest (wsV RX8 89 RX8 yX8_isSet wsX8_isSet) := goodIn_app (goodIn_of _ (by decide +kernel)) ggX8_lightest_X8_isSet
set_option maxRecDepth 20000 in
theorem ggX8_lightest_X8_throwing : GoodIn wsX8_lightest wsX8_throwing := goodIn_r _ [15, 16, 38, 39, 40, 41, 42, 43, 44, 45, 46, 47, 48, 49, 50, 51, 52, 53, 54, 55, 56, 57] (by decide +kernel) (by decide +kernel)
set_option maxRecDepth 20000 in
theorem gX8_lightest_X8_throwing : GoodIn wsX8_lightest (wsV RX8 78 RX8 yX8_throwing wsX8_throwing) := goodIn_app (goodIn_of _ (by decide +kernel)) ggX8_lightest_X8_throwing
set_option maxRecDepth 20000 in
theorem ggX8_lightest_X8_beginsWith : GoodIn wsX8_lightest wsX8_beginsWith := goodIn_r _ [20, 2, 21, 22, 23, 10, 24, 25, 3, 26, 27, 28, 29, 30, 4, 5, 31, 32, 33, 38, 39, 40, 41, 42, 43, 44, 45, 46, 47, 48, 49, 50, 51, 52, 53, 54, 55, 56, 57] (by decide +kernel) (by decide +kernel)
set_option maxRecDepth 20000 in
theorem gX8_lightest_X8_beginsWith : GoodIn wsX8_lightest (wsV RX8 93 RX8 yX8_beginsWith wsX8_beginsWith) := goodIn_app (goodIn_of _ (by decide +kernel)) ggX8_lightest_X8_beginsWith
set_option maxRecDepth 20000 in
theorem ggX8_lightest_X8_weightOf : GoodIn wsX8_lightest wsX8_weightOf := goodIn_r _ [37, 2, 6, 38, 39, 40, 41, 42, 43, 44, 45, 46, 47, 48, 49, 50, 51, 52, 53, 54, 55, 56, 57] (by decide +kernel) (by decide +kernel)
set_option maxRecDepth 20000 in
theorem gX8_lightest_X8_weightOf : GoodIn wsX8_lightest (wsV RX8 113 RX8 yX8_weightOf wsX8_weightOf) := goodIn_app (goodIn_of _ (by decide +kernel)) ggX8_lightest_X8_weightOf
set_option maxRecDepth 20000 in
theorem ggX8_lightest_X8_joins : GoodIn wsX8_lightest wsX8_joins := goodIn_r _ [30, 4, 5, 3, 31, 25, 26, 32, 33, 38, 39, 40, 41, 42, 43, 44, 45, 46, 47, 48, 49, 50, 51, 52, 53, 54, 55, 56, 57] (by decide +kernel) (by decide +kernel)
set_option maxRecDepth 20000 in
theorem gX8_lightest_X8_joins : GoodIn wsX8_lightest (wsV RX8 70 RX8 yX8_joins wsX8_joins) := goodIn_app (goodIn_of _ (by decide +kernel)) ggX8_lightest_X8_joins
theorem dX8_lightest_0 : decode cX8_lightest 0 = .ok (.aload_n 0, 1) := by decide +kernel
theorem dX8_lightest_1 : decode cX8_lightest 1 = .ok (.aload_n 0, 1) := by decide +kernel
theorem dX8_lightest_2 : decode cX8_lightest 2 = .ok (.lload_n 1, 1) := by decide +kernel
theorem dX8_lightest_3 : decode cX8_lightest 3 = .ok (.invokevirtual 89, 3) := by decide +kernel
theorem dX8_lightest_6 : decode cX8_lightest 6 = .ok (.ifCond .ne 7, 3) := by decide +kernel
theorem dX8_lightest_9 : decode cX8_lightest 9 = .ok (.iconst 1, 1) := by decide +kernel
theorem dX8_lightest_10 : decode cX8_lightest 10 = .ok (.goto 4, 3) := by decide +kernel
theorem dX8_lightest_13 : decode cX8_lightest 13 = .ok (.iconst 0, 1) := by decide +kernel
theorem dX8_lightest_14 : decode cX8_lightest 14 = .ok (.iconst 0, 1) := by decide +kernel
theorem dX8_lightest_15 : decode cX8_lightest 15 = .ok (.invokevirtual 78, 3) := by decide +kernel
theorem dX8_lightest_18 : decode cX8_lightest 18 = .ok (.ifCond .eq 5, 3) := by decide +kernel
theorem dX8_lightest_21 : decode cX8_lightest 21 = .ok (.lconst 0, 1) := by decide +kernel
theorem dX8_lightest_22 : decode cX8_lightest 22 = .ok (.lreturn, 1) := by decide +kernel
theorem dX8_lightest_23 : decode cX8_lightest 23 = .ok (.aload_n 0, 1) := by decide +kernel
theorem dX8_lightest_24 : decode cX8_lightest 24 = .ok (.lload_n 1, 1) := by decide +kernel
theorem dX8_lightest_25 : decode cX8_lightest 25 = .ok (.invokevirtual 93, 3) := by decide +kernel
theorem dX8_lightest_28 : decode cX8_lightest 28 = .ok (.ifCond .ne 7, 3) := by decide +kernel
theorem dX8_lightest_31 : decode cX8_lightest 31 = .ok (.ldc2_w 111, 3) := by decide +kernel
theorem dX8_lightest_34 : decode cX8_lightest 34 = .ok (.lreturn, 1) := by decide +kernel
theorem dX8_lightest_35 : decode cX8_lightest 35 = .ok (.aload_n 0, 1) := by decide +kernel
theorem dX8_lightest_36 : decode cX8_lightest 36 = .ok (.lload_n 1, 1) := by decide +kernel
theorem dX8_lightest_37 : decode cX8_lightest 37 = .ok (.invokevirtual 113, 3) := by decide +kernel
theorem dX8_lightest_40 : decode cX8_lightest 40 = .ok (.lstore_n 3, 1) := by decide +kernel
theorem dX8_lightest_41 : decode cX8_lightest 41 = .ok (.iconst 1, 1) := by decide +kernel
theorem dX8_lightest_42 : decode cX8_lightest 42 = .ok (.istore 5, 2) := by decide +kernel
theorem dX8_lightest_44 : decode cX8_lightest 44 = .ok (.iload 5, 2) := by decide +kernel
theorem dX8_lightest_46 : decode cX8_lightest 46 = .ok (.ifCond .eq 124, 3) := by decide +kernel
theorem dX8_lightest_49 : decode cX8_lightest 49 = .ok (.iconst (-1), 1) := by decide +kernel
theorem dX8_lightest_50 : decode cX8_lightest 50 = .ok (.istore 6, 2) := by decide +kernel
theorem dX8_lightest_52 : decode cX8_lightest 52 = .ok (.iconst 0, 1) := by decide +kernel
theorem dX8_lightest_53 : decode cX8_lightest 53 = .ok (.istore 7, 2) := by decide +kernel
theorem dX8_lightest_55 : decode cX8_lightest 55 = .ok (.iload 7, 2) := by decide +kernel
theorem dX8_lightest_57 : decode cX8_lightest 57 = .ok (.aload_n 0, 1) := by decide +kernel
theorem dX8_lightest_58 : decode cX8_lightest 58 = .ok (.getfield 61, 3) := by decide +kernel
theorem dX8_lightest_61 : decode cX8_lightest 61 = .ok (.if_icmp .ge 65, 3) := by decide +kernel
theorem dX8_lightest_64 : decode cX8_lightest 64 = .ok (.aload_n 0, 1) := by decide +kernel
theorem dX8_lightest_65 : decode cX8_lightest 65 = .ok (.getfield 27, 3) := by decide +kernel
theorem dX8_lightest_68 : decode cX8_lightest 68 = .ok (.aload_n 0, 1) := by decide +kernel
theorem dX8_lightest_69 : decode cX8_lightest 69 = .ok (.getfield 13, 3) := by decide +kernel
theorem dX8_lightest_72 : decode cX8_lightest 72 = .ok (.iload 7, 2) := by decide +kernel
theorem dX8_lightest_74 : decode cX8_lightest 74 = .ok (.iaload, 1) := by decide +kernel
theorem dX8_lightest_75 : decode cX8_lightest 75 = .ok (.iaload, 1) := by decide +kernel
theorem dX8_lightest_76 : decode cX8_lightest 76 = .ok (.aload_n 0, 1) := by decide +kernel
theorem dX8_lightest_77 : decode cX8_lightest 77 = .ok (.getfield 27, 3) := by decide +kernel
theorem dX8_lightest_80 : decode cX8_lightest 80 = .ok (.aload_n 0, 1) := by decide +kernel
theorem dX8_lightest_81 : decode cX8_lightest 81 = .ok (.getfield 17, 3) := by decide +kernel
theorem dX8_lightest_84 : decode cX8_lightest 84 = .ok (.iload 7, 2) := by decide +kernel
theorem dX8_lightest_86 : decode cX8_lightest 86 = .ok (.iaload, 1) := by decide +kernel
theorem dX8_lightest_87 : decode cX8_lightest 87 = .ok (.iaload, 1) := by decide +kernel
theorem dX8_lightest_88 : decode cX8_lightest 88 = .ok (.if_icmp .ne 6, 3) := by decide +kernel
theorem dX8_lightest_91 : decode cX8_lightest 91 = .ok (.goto 29, 3) := by decide +kernel
theorem dX8_lightest_94 : decode cX8_lightest 94 = .ok (.iload 6, 2) := by decide +kernel
theorem dX8_lightest_96 : decode cX8_lightest 96 = .ok (.ifCond .lt 20, 3) := by decide +kernel
theorem dX8_lightest_99 : decode cX8_lightest 99 = .ok (.aload_n 0, 1) := by decide +kernel
theorem dX8_lightest_100 : decode cX8_lightest 100 = .ok (.getfield 20, 3) := by decide +kernel
theorem dX8_lightest_103 : decode cX8_lightest 103 = .ok (.iload 7, 2) := by decide +kernel
theorem dX8_lightest_105 : decode cX8_lightest 105 = .ok (.iaload, 1) := by decide +kernel
theorem dX8_lightest_106 : decode cX8_lightest 106 = .ok (.aload_n 0, 1) := by decide +kernel
theorem dX8_lightest_107 : decode cX8_lightest 107 = .ok (.getfield 20, 3) := by decide +kernel
theorem dX8_lightest_110 : decode cX8_lightest 110 = .ok (.iload 6, 2) := by decide +kernel
theorem dX8_lightest_112 : decode cX8_lightest 112 = .ok (.iaload, 1) := by decide +kernel
theorem dX8_lightest_113 : decode cX8_lightest 113 = .ok (.if_icmp .ge 7, 3) := by decide +kernel
theorem dX8_lightest_116 : decode cX8_lightest 116 = .ok (.iload 7, 2) := by decide +kernel
theorem dX8_lightest_118 : decode cX8_lightest 118 = .ok (.istore 6, 2) := by decide +kernel
theorem dX8_lightest_120 : decode cX8_lightest 120 = .ok (.iinc 7 1, 3) := by decide +kernel
theorem dX8_lightest_123 : decode cX8_lightest 123 = .ok (.goto (-68), 3) := by decide +kernel
theorem dX8_lightest_126 : decode cX8_lightest 126 = .ok (.iload 6, 2) := by decide +kernel
theorem dX8_lightest_128 : decode cX8_lightest 128 = .ok (.ifCond .lt 16, 3) := by decide +kernel
theorem dX8_lightest_131 : decode cX8_lightest 131 = .ok (.aload_n 0, 1) := by decide +kernel
theorem dX8_lightest_132 : decode cX8_lightest 132 = .ok (.iload 6, 2) := by decide +kernel
theorem dX8_lightest_134 : decode cX8_lightest 134 = .ok (.invokevirtual 70, 3) := by decide +kernel
theorem dX8_lightest_137 : decode cX8_lightest 137 = .ok (.ifCond .eq 7, 3) := by decide +kernel
theorem dX8_lightest_140 : decode cX8_lightest 140 = .ok (.iconst 1, 1) := by decide +kernel
theorem dX8_lightest_141 : decode cX8_lightest 141 = .ok (.goto 4, 3) := by decide +kernel
theorem dX8_lightest_144 : decode cX8_lightest 144 = .ok (.iconst 0, 1) := by decide +kernel
theorem dX8_lightest_145 : decode cX8_lightest 145 = .ok (.istore 5, 2) := by decide +kernel
theorem dX8_lightest_147 : decode cX8_lightest 147 = .ok (.lload_n 3, 1) := by decide +kernel
theorem dX8_lightest_148 : decode cX8_lightest 148 = .ok (.iload 5, 2) := by decide +kernel
theorem dX8_lightest_150 : decode cX8_lightest 150 = .ok (.ifCond .eq 14, 3) := by decide +kernel
theorem dX8_lightest_153 : decode cX8_lightest 153 = .ok (.aload_n 0, 1) := by decide +kernel
theorem dX8_lightest_154 : decode cX8_lightest 154 = .ok (.getfield 20, 3) := by decide +kernel
theorem dX8_lightest_157 : decode cX8_lightest 157 = .ok (.iload 6, 2) := by decide +kernel
theorem dX8_lightest_159 : decode cX8_lightest 159 = .ok (.iaload, 1) := by decide +kernel
theorem dX8_lightest_160 : decode cX8_lightest 160 = .ok (.i2l, 1) := by decide +kernel
theorem dX8_lightest_161 : decode cX8_lightest 161 = .ok (.goto 4, 3) := by decide +kernel
theorem dX8_lightest_164 : decode cX8_lightest 164 = .ok (.lconst 0, 1) := by decide +kernel
theorem dX8_lightest_165 : decode cX8_lightest 165 = .ok (.ladd, 1) := by decide +kernel
theorem dX8_lightest_166 : decode cX8_lightest 166 = .ok (.lstore_n 3, 1) := by decide +kernel
theorem dX8_lightest_167 : decode cX8_lightest 167 = .ok (.goto (-123), 3) := by decide +kernel
theorem dX8_lightest_170 : decode cX8_lightest 170 = .ok (.lload_n 3, 1) := by decide +kernel
theorem dX8_lightest_171 : decode cX8_lightest 171 = .ok (.lreturn, 1) := by decide +kernel
set_option maxRecDepth 20000 in
theorem ggX8_spread_X8_dimension : GoodIn wsX8_spread wsX8_dimension := goodIn_r _ [9, 10, 11, 12, 13, 14, 8, 15, 16, 17, 18, 19, 2, 20, 21, 22, 23, 24, 25, 26, 27, 3, 28, 34, 35, 36, 37, 38, 39, 40, 41, 42, 43, 44, 45, 46, 47, 48, 49, 50, 51, 52, 53] (by decide +kernel) (by decide +kernel)
set_option maxRecDepth 20000 in
theorem gX8_spread_X8_dimension : GoodIn wsX8_spread (wsV RX8 86 RX8 yX8_dimension wsX8_dimension) := goodIn_app (goodIn_of _ (by decide +kernel)) ggX8_spread_X8_dimension
set_option maxRecDepth 20000 in
theorem ggX8_spread_X8_weightOf : GoodIn wsX8_spread wsX8_weightOf := goodIn_r _ [32, 10, 33, 34, 35, 36, 37, 38, 39, 40, 41, 42, 43, 44, 45, 46, 47, 48, 49, 50, 51, 52, 53] (by decide +kernel) (by decide +kernel)
set_option maxRecDepth 20000 in
theorem gX8_spread_X8_weightOf : GoodIn wsX8_spread (wsV RX8 113 RX8 yX8_weightOf wsX8_weightOf) := goodIn_app (goodIn_of _ (by decide +kernel)) ggX8_spread_X8_weightOf
theorem dX8_spread_0 : decode cX8_spread 0 = .ok (.iconst 1, 1) := by decide +kernel
theorem dX8_spread_1 : decode cX8_spread 1 = .ok (.aload_n 0, 1) := by decide +kernel
theorem dX8_spread_2 : decode cX8_spread 2 = .ok (.invokevirtual 86, 3) := by decide +kernel
theorem dX8_spread_5 : decode cX8_spread 5 = .ok (.ishl, 1) := by decide +kernel
theorem dX8_spread_6 : decode cX8_spread 6 = .ok (.istore_n 1, 1) := by decide +kernel
theorem dX8_spread_7 : decode cX8_spread 7 = .ok (.iconst 0, 1) := by decide +kernel
theorem dX8_spread_8 : decode cX8_spread 8 = .ok (.istore_n 2, 1) := by decide +kernel
theorem dX8_spread_9 : decode cX8_spread 9 = .ok (.iload_n 2, 1) := by decide +kernel
theorem dX8_spread_10 : decode cX8_spread 10 = .ok (.iload_n 1, 1) := by decide +kernel
theorem dX8_spread_11 : decode cX8_spread 11 = .ok (.if_icmp .ge 72, 3) := by decide +kernel
theorem dX8_spread_14 : decode cX8_spread 14 = .ok (.aload_n 0, 1) := by decide +kernel
theorem dX8_spread_15 : decode cX8_spread 15 = .ok (.getfield 39, 3) := by decide +kernel
theorem dX8_spread_18 : decode cX8_spread 18 = .ok (.iload_n 2, 1) := by decide +kernel
theorem dX8_spread_19 : decode cX8_spread 19 = .ok (.lconst 0, 1) := by decide +kernel
theorem dX8_spread_20 : decode cX8_spread 20 = .ok (.lastore, 1) := by decide +kernel
theorem dX8_spread_21 : decode cX8_spread 21 = .ok (.iconst 0, 1) := by decide +kernel
theorem dX8_spread_22 : decode cX8_spread 22 = .ok (.istore_n 3, 1) := by decide +kernel
theorem dX8_spread_23 : decode cX8_spread 23 = .ok (.iload_n 3, 1) := by decide +kernel
theorem dX8_spread_24 : decode cX8_spread 24 = .ok (.aload_n 0, 1) := by decide +kernel
theorem dX8_spread_25 : decode cX8_spread 25 = .ok (.getfield 64, 3) := by decide +kernel
theorem dX8_spread_28 : decode cX8_spread 28 = .ok (.if_icmp .ge 33, 3) := by decide +kernel
theorem dX8_spread_31 : decode cX8_spread 31 = .ok (.iload_n 2, 1) := by decide +kernel
theorem dX8_spread_32 : decode cX8_spread 32 = .ok (.iload_n 3, 1) := by decide +kernel
theorem dX8_spread_33 : decode cX8_spread 33 = .ok (.ishr, 1) := by decide +kernel
theorem dX8_spread_34 : decode cX8_spread 34 = .ok (.iconst 1, 1) := by decide +kernel
theorem dX8_spread_35 : decode cX8_spread 35 = .ok (.iand, 1) := by decide +kernel
theorem dX8_spread_36 : decode cX8_spread 36 = .ok (.iconst 1, 1) := by decide +kernel
theorem dX8_spread_37 : decode cX8_spread 37 = .ok (.if_icmp .ne 18, 3) := by decide +kernel
theorem dX8_spread_40 : decode cX8_spread 40 = .ok (.aload_n 0, 1) := by decide +kernel
theorem dX8_spread_41 : decode cX8_spread 41 = .ok (.getfield 39, 3) := by decide +kernel
theorem dX8_spread_44 : decode cX8_spread 44 = .ok (.iload_n 2, 1) := by decide +kernel
theorem dX8_spread_45 : decode cX8_spread 45 = .ok (.dup2, 1) := by decide +kernel
theorem dX8_spread_46 : decode cX8_spread 46 = .ok (.laload, 1) := by decide +kernel
theorem dX8_spread_47 : decode cX8_spread 47 = .ok (.aload_n 0, 1) := by decide +kernel
theorem dX8_spread_48 : decode cX8_spread 48 = .ok (.getfield 33, 3) := by decide +kernel
theorem dX8_spread_51 : decode cX8_spread 51 = .ok (.iload_n 3, 1) := by decide +kernel
theorem dX8_spread_52 : decode cX8_spread 52 = .ok (.laload, 1) := by decide +kernel
theorem dX8_spread_53 : decode cX8_spread 53 = .ok (.lxor, 1) := by decide +kernel
theorem dX8_spread_54 : decode cX8_spread 54 = .ok (.lastore, 1) := by decide +kernel
theorem dX8_spread_55 : decode cX8_spread 55 = .ok (.iinc 3 1, 3) := by decide +kernel
theorem dX8_spread_58 : decode cX8_spread 58 = .ok (.goto (-35), 3) := by decide +kernel
theorem dX8_spread_61 : decode cX8_spread 61 = .ok (.aload_n 0, 1) := by decide +kernel
theorem dX8_spread_62 : decode cX8_spread 62 = .ok (.getfield 42, 3) := by decide +kernel
theorem dX8_spread_65 : decode cX8_spread 65 = .ok (.iload_n 2, 1) := by decide +kernel
theorem dX8_spread_66 : decode cX8_spread 66 = .ok (.aload_n 0, 1) := by decide +kernel
theorem dX8_spread_67 : decode cX8_spread 67 = .ok (.aload_n 0, 1) := by decide +kernel
theorem dX8_spread_68 : decode cX8_spread 68 = .ok (.getfield 39, 3) := by decide +kernel
theorem dX8_spread_71 : decode cX8_spread 71 = .ok (.iload_n 2, 1) := by decide +kernel
theorem dX8_spread_72 : decode cX8_spread 72 = .ok (.laload, 1) := by decide +kernel
theorem dX8_spread_73 : decode cX8_spread 73 = .ok (.invokevirtual 113, 3) := by decide +kernel
theorem dX8_spread_76 : decode cX8_spread 76 = .ok (.lastore, 1) := by decide +kernel
theorem dX8_spread_77 : decode cX8_spread 77 = .ok (.iinc 2 1, 3) := by decide +kernel
theorem dX8_spread_80 : decode cX8_spread 80 = .ok (.goto (-71), 3) := by decide +kernel
theorem dX8_spread_83 : decode cX8_spread 83 = .ok (.iload_n 1, 1) := by decide +kernel
theorem dX8_spread_84 : decode cX8_spread 84 = .ok (.ireturn, 1) := by decide +kernel
theorem dX8_endsAt_0 : decode cX8_endsAt 0 = .ok (.iconst 0, 1) := by decide +kernel
theorem dX8_endsAt_1 : decode cX8_endsAt 1 = .ok (.istore 4, 2) := by decide +kernel
theorem dX8_endsAt_3 : decode cX8_endsAt 3 = .ok (.iconst 0, 1) := by decide +kernel
theorem dX8_endsAt_4 : decode cX8_endsAt 4 = .ok (.istore 5, 2) := by decide +kernel
theorem dX8_endsAt_6 : decode cX8_endsAt 6 = .ok (.iload 5, 2) := by decide +kernel
theorem dX8_endsAt_8 : decode cX8_endsAt 8 = .ok (.aload_n 0, 1) := by decide +kernel
theorem dX8_endsAt_9 : decode cX8_endsAt 9 = .ok (.getfield 61, 3) := by decide +kernel
theorem dX8_endsAt_12 : decode cX8_endsAt 12 = .ok (.if_icmp .ge 65, 3) := by decide +kernel
theorem dX8_endsAt_15 : decode cX8_endsAt 15 = .ok (.lload_n 1, 1) := by decide +kernel
theorem dX8_endsAt_16 : decode cX8_endsAt 16 = .ok (.iload 5, 2) := by decide +kernel
theorem dX8_endsAt_18 : decode cX8_endsAt 18 = .ok (.lshr, 1) := by decide +kernel
theorem dX8_endsAt_19 : decode cX8_endsAt 19 = .ok (.lconst 1, 1) := by decide +kernel
theorem dX8_endsAt_20 : decode cX8_endsAt 20 = .ok (.land, 1) := by decide +kernel
theorem dX8_endsAt_21 : decode cX8_endsAt 21 = .ok (.lconst 0, 1) := by decide +kernel
theorem dX8_endsAt_22 : decode cX8_endsAt 22 = .ok (.lcmp, 1) := by decide +kernel
theorem dX8_endsAt_23 : decode cX8_endsAt 23 = .ok (.ifCond .ne 6, 3) := by decide +kernel
theorem dX8_endsAt_26 : decode cX8_endsAt 26 = .ok (.goto 45, 3) := by decide +kernel
theorem dX8_endsAt_29 : decode cX8_endsAt 29 = .ok (.iload 4, 2) := by decide +kernel
theorem dX8_endsAt_31 : decode cX8_endsAt 31 = .ok (.aload_n 0, 1) := by decide +kernel
theorem dX8_endsAt_32 : decode cX8_endsAt 32 = .ok (.getfield 13, 3) := by decide +kernel
theorem dX8_endsAt_35 : decode cX8_endsAt 35 = .ok (.iload 5, 2) := by decide +kernel
theorem dX8_endsAt_37 : decode cX8_endsAt 37 = .ok (.iaload, 1) := by decide +kernel
theorem dX8_endsAt_38 : decode cX8_endsAt 38 = .ok (.iload_n 3, 1) := by decide +kernel
theorem dX8_endsAt_39 : decode cX8_endsAt 39 = .ok (.if_icmp .ne 7, 3) := by decide +kernel
theorem dX8_endsAt_42 : decode cX8_endsAt 42 = .ok (.iconst 1, 1) := by decide +kernel
theorem dX8_endsAt_43 : decode cX8_endsAt 43 = .ok (.goto 4, 3) := by decide +kernel
theorem dX8_endsAt_46 : decode cX8_endsAt 46 = .ok (.iconst 0, 1) := by decide +kernel
theorem dX8_endsAt_47 : decode cX8_endsAt 47 = .ok (.iadd, 1) := by decide +kernel
theorem dX8_endsAt_48 : decode cX8_endsAt 48 = .ok (.istore 4, 2) := by decide +kernel
theorem dX8_endsAt_50 : decode cX8_endsAt 50 = .ok (.iload 4, 2) := by decide +kernel
theorem dX8_endsAt_52 : decode cX8_endsAt 52 = .ok (.aload_n 0, 1) := by decide +kernel
theorem dX8_endsAt_53 : decode cX8_endsAt 53 = .ok (.getfield 17, 3) := by decide +kernel
theorem dX8_endsAt_56 : decode cX8_endsAt 56 = .ok (.iload 5, 2) := by decide +kernel
theorem dX8_endsAt_58 : decode cX8_endsAt 58 = .ok (.iaload, 1) := by decide +kernel
theorem dX8_endsAt_59 : decode cX8_endsAt 59 = .ok (.iload_n 3, 1) := by decide +kernel
theorem dX8_endsAt_60 : decode cX8_endsAt 60 = .ok (.if_icmp .ne 7, 3) := by decide +kernel
theorem dX8_endsAt_63 : decode cX8_endsAt 63 = .ok (.iconst 1, 1) := by decide +kernel
theorem dX8_endsAt_64 : decode cX8_endsAt 64 = .ok (.goto 4, 3) := by decide +kernel
theorem dX8_endsAt_67 : decode cX8_endsAt 67 = .ok (.iconst 0, 1) := by decide +kernel
theorem dX8_endsAt_68 : decode cX8_endsAt 68 = .ok (.iadd, 1) := by decide +kernel
theorem dX8_endsAt_69 : decode cX8_endsAt 69 = .ok (.istore 4, 2) := by decide +kernel
theorem dX8_endsAt_71 : decode cX8_endsAt 71 = .ok (.iinc 5 1, 3) := by decide +kernel
theorem dX8_endsAt_74 : decode cX8_endsAt 74 = .ok (.goto (-68), 3) := by decide +kernel
theorem dX8_endsAt_77 : decode cX8_endsAt 77 = .ok (.iload 4, 2) := by decide +kernel
theorem dX8_endsAt_79 : decode cX8_endsAt 79 = .ok (.ireturn, 1) := by decide +kernel
set_option maxRecDepth 20000 in
theorem ggX8_isEven_X8_endsAt : GoodIn wsX8_isEven wsX8_endsAt := goodIn_r _ [6, 7, 8, 9, 10, 11, 12, 13, 14, 15, 16, 17, 18, 19, 20, 21, 22, 23, 24, 25, 26, 27, 28, 29] (by decide +kernel) (by decide +kernel)
set_option maxRecDepth 20000 in
theorem gX8_isEven_X8_endsAt : GoodIn wsX8_isEven (wsV RX8 117 RX8 yX8_endsAt wsX8_endsAt) := goodIn_app (goodIn_of _ (by decide +kernel)) ggX8_isEven_X8_endsAt
theorem dX8_isEven_0 : decode cX8_isEven 0 = .ok (.iconst 1, 1) := by decide +kernel
theorem dX8_isEven_1 : decode cX8_isEven 1 = .ok (.istore_n 3, 1) := by decide +kernel
theorem dX8_isEven_2 : decode cX8_isEven 2 = .ok (.iconst 0, 1) := by decide +kernel
theorem dX8_isEven_3 : decode cX8_isEven 3 = .ok (.istore 4, 2) := by decide +kernel
theorem dX8_isEven_5 : decode cX8_isEven 5 = .ok (.iload 4, 2) := by decide +kernel
theorem dX8_isEven_7 : decode cX8_isEven 7 = .ok (.aload_n 0, 1) := by decide +kernel
theorem dX8_isEven_8 : decode cX8_isEven 8 = .ok (.getfield 7, 3) := by decide +kernel
theorem dX8_isEven_11 : decode cX8_isEven 11 = .ok (.if_icmp .ge 31, 3) := by decide +kernel
theorem dX8_isEven_14 : decode cX8_isEven 14 = .ok (.iload_n 3, 1) := by decide +kernel
theorem dX8_isEven_15 : decode cX8_isEven 15 = .ok (.ifCond .eq 19, 3) := by decide +kernel
theorem dX8_isEven_18 : decode cX8_isEven 18 = .ok (.aload_n 0, 1) := by decide +kernel
theorem dX8_isEven_19 : decode cX8_isEven 19 = .ok (.lload_n 1, 1) := by decide +kernel
theorem dX8_isEven_20 : decode cX8_isEven 20 = .ok (.iload 4, 2) := by decide +kernel
theorem dX8_isEven_22 : decode cX8_isEven 22 = .ok (.invokevirtual 117, 3) := by decide +kernel
theorem dX8_isEven_25 : decode cX8_isEven 25 = .ok (.iconst 2, 1) := by decide +kernel
theorem dX8_isEven_26 : decode cX8_isEven 26 = .ok (.irem, 1) := by decide +kernel
theorem dX8_isEven_27 : decode cX8_isEven 27 = .ok (.ifCond .ne 7, 3) := by decide +kernel
theorem dX8_isEven_30 : decode cX8_isEven 30 = .ok (.iconst 1, 1) := by decide +kernel
theorem dX8_isEven_31 : decode cX8_isEven 31 = .ok (.goto 4, 3) := by decide +kernel
theorem dX8_isEven_34 : decode cX8_isEven 34 = .ok (.iconst 0, 1) := by decide +kernel
theorem dX8_isEven_35 : decode cX8_isEven 35 = .ok (.istore_n 3, 1) := by decide +kernel
theorem dX8_isEven_36 : decode cX8_isEven 36 = .ok (.iinc 4 1, 3) := by decide +kernel
theorem dX8_isEven_39 : decode cX8_isEven 39 = .ok (.goto (-34), 3) := by decide +kernel
theorem dX8_isEven_42 : decode cX8_isEven 42 = .ok (.iload_n 3, 1) := by decide +kernel
theorem dX8_isEven_43 : decode cX8_isEven 43 = .ok (.ireturn, 1) := by decide +kernel
set_option maxRecDepth 20000 in
theorem ggX8_isRing_X8_endsAt : GoodIn wsX8_isRing wsX8_endsAt := goodIn_r _ [7, 2, 8, 9, 23, 24, 25, 26, 27, 28, 29, 30, 31, 32, 33, 34, 35, 36, 37, 38, 39, 40, 41, 42] (by decide +kernel) (by decide +kernel)
set_option maxRecDepth 20000 in
theorem gX8_isRing_X8_endsAt : GoodIn wsX8_isRing (wsV RX8 117 RX8 yX8_endsAt wsX8_endsAt) := goodIn_app (goodIn_of _ (by decide +kernel)) ggX8_isRing_X8_endsAt
set_option maxRecDepth 20000 in
theorem ggX8_isRing_X8_beginGroups : GoodIn wsX8_isRing wsX8_beginGroups := goodIn_r _ [13, 14, 15, 16, 23, 24, 25, 26, 27, 28, 29, 30, 31, 32, 33, 34, 35, 36, 37, 38, 39, 40, 41, 42] (by decide +kernel) (by decide +kernel)
set_option maxRecDepth 20000 in
theorem gX8_isRing_X8_beginGroups : GoodIn wsX8_isRing (wsV RX8 67 RX8 yX8_beginGroups wsX8_beginGroups) := goodIn_app (goodIn_of _ (by decide +kernel)) ggX8_isRing_X8_beginGroups
set_option maxRecDepth 20000 in
theorem ggX8_isRing_X8_joins : GoodIn wsX8_isRing wsX8_joins := goodIn_r _ [20, 8, 9, 15, 21, 14, 16, 22, 1, 23, 24, 25, 26, 27, 28, 29, 30, 31, 32, 33, 34, 35, 36, 37, 38, 39, 40, 41, 42] (by decide +kernel) (by decide +kernel)
set_option maxRecDepth 20000 in
theorem gX8_isRing_X8_joins : GoodIn wsX8_isRing (wsV RX8 70 RX8 yX8_joins wsX8_joins) := goodIn_app (goodIn_of _ (by decide +kernel)) ggX8_isRing_X8_joins
theorem dX8_isRing_0 : decode cX8_isRing 0 = .ok (.lload_n 1, 1) := by decide +kernel
theorem dX8_isRing_1 : decode cX8_isRing 1 = .ok (.lconst 0, 1) := by decide +kernel
theorem dX8_isRing_2 : decode cX8_isRing 2 = .ok (.lcmp, 1) := by decide +kernel
theorem dX8_isRing_3 : decode cX8_isRing 3 = .ok (.ifCond .ne 5, 3) := by decide +kernel
theorem dX8_isRing_6 : decode cX8_isRing 6 = .ok (.iconst 0, 1) := by decide +kernel
theorem dX8_isRing_7 : decode cX8_isRing 7 = .ok (.ireturn, 1) := by decide +kernel
theorem dX8_isRing_8 : decode cX8_isRing 8 = .ok (.iconst 1, 1) := by decide +kernel
theorem dX8_isRing_9 : decode cX8_isRing 9 = .ok (.istore_n 3, 1) := by decide +kernel
theorem dX8_isRing_10 : decode cX8_isRing 10 = .ok (.iconst 0, 1) := by decide +kernel
theorem dX8_isRing_11 : decode cX8_isRing 11 = .ok (.istore 4, 2) := by decide +kernel
theorem dX8_isRing_13 : decode cX8_isRing 13 = .ok (.iload 4, 2) := by decide +kernel
theorem dX8_isRing_15 : decode cX8_isRing 15 = .ok (.aload_n 0, 1) := by decide +kernel
theorem dX8_isRing_16 : decode cX8_isRing 16 = .ok (.getfield 7, 3) := by decide +kernel
theorem dX8_isRing_19 : decode cX8_isRing 19 = .ok (.if_icmp .ge 30, 3) := by decide +kernel
theorem dX8_isRing_22 : decode cX8_isRing 22 = .ok (.iload_n 3, 1) := by decide +kernel
theorem dX8_isRing_23 : decode cX8_isRing 23 = .ok (.ifCond .eq 18, 3) := by decide +kernel
theorem dX8_isRing_26 : decode cX8_isRing 26 = .ok (.aload_n 0, 1) := by decide +kernel
theorem dX8_isRing_27 : decode cX8_isRing 27 = .ok (.lload_n 1, 1) := by decide +kernel
theorem dX8_isRing_28 : decode cX8_isRing 28 = .ok (.iload 4, 2) := by decide +kernel
theorem dX8_isRing_30 : decode cX8_isRing 30 = .ok (.invokevirtual 117, 3) := by decide +kernel
theorem dX8_isRing_33 : decode cX8_isRing 33 = .ok (.iconst 2, 1) := by decide +kernel
theorem dX8_isRing_34 : decode cX8_isRing 34 = .ok (.if_icmp .gt 7, 3) := by decide +kernel
theorem dX8_isRing_37 : decode cX8_isRing 37 = .ok (.iconst 1, 1) := by decide +kernel
theorem dX8_isRing_38 : decode cX8_isRing 38 = .ok (.goto 4, 3) := by decide +kernel
theorem dX8_isRing_41 : decode cX8_isRing 41 = .ok (.iconst 0, 1) := by decide +kernel
theorem dX8_isRing_42 : decode cX8_isRing 42 = .ok (.istore_n 3, 1) := by decide +kernel
theorem dX8_isRing_43 : decode cX8_isRing 43 = .ok (.iinc 4 1, 3) := by decide +kernel
theorem dX8_isRing_46 : decode cX8_isRing 46 = .ok (.goto (-33), 3) := by decide +kernel
theorem dX8_isRing_49 : decode cX8_isRing 49 = .ok (.iconst 0, 1) := by decide +kernel
theorem dX8_isRing_50 : decode cX8_isRing 50 = .ok (.istore 4, 2) := by decide +kernel
theorem dX8_isRing_52 : decode cX8_isRing 52 = .ok (.iconst 0, 1) := by decide +kernel
theorem dX8_isRing_53 : decode cX8_isRing 53 = .ok (.istore 5, 2) := by decide +kernel
theorem dX8_isRing_55 : decode cX8_isRing 55 = .ok (.iload 5, 2) := by decide +kernel
theorem dX8_isRing_57 : decode cX8_isRing 57 = .ok (.aload_n 0, 1) := by decide +kernel
theorem dX8_isRing_58 : decode cX8_isRing 58 = .ok (.getfield 61, 3) := by decide +kernel
theorem dX8_isRing_61 : decode cX8_isRing 61 = .ok (.if_icmp .ge 21, 3) := by decide +kernel
theorem dX8_isRing_64 : decode cX8_isRing 64 = .ok (.iload 4, 2) := by decide +kernel
theorem dX8_isRing_66 : decode cX8_isRing 66 = .ok (.lload_n 1, 1) := by decide +kernel
theorem dX8_isRing_67 : decode cX8_isRing 67 = .ok (.iload 5, 2) := by decide +kernel
theorem dX8_isRing_69 : decode cX8_isRing 69 = .ok (.lshr, 1) := by decide +kernel
theorem dX8_isRing_70 : decode cX8_isRing 70 = .ok (.lconst 1, 1) := by decide +kernel
theorem dX8_isRing_71 : decode cX8_isRing 71 = .ok (.land, 1) := by decide +kernel
theorem dX8_isRing_72 : decode cX8_isRing 72 = .ok (.l2i, 1) := by decide +kernel
theorem dX8_isRing_73 : decode cX8_isRing 73 = .ok (.iadd, 1) := by decide +kernel
theorem dX8_isRing_74 : decode cX8_isRing 74 = .ok (.istore 4, 2) := by decide +kernel
theorem dX8_isRing_76 : decode cX8_isRing 76 = .ok (.iinc 5 1, 3) := by decide +kernel
theorem dX8_isRing_79 : decode cX8_isRing 79 = .ok (.goto (-24), 3) := by decide +kernel
theorem dX8_isRing_82 : decode cX8_isRing 82 = .ok (.aload_n 0, 1) := by decide +kernel
theorem dX8_isRing_83 : decode cX8_isRing 83 = .ok (.invokevirtual 67, 3) := by decide +kernel
theorem dX8_isRing_86 : decode cX8_isRing 86 = .ok (.iconst 0, 1) := by decide +kernel
theorem dX8_isRing_87 : decode cX8_isRing 87 = .ok (.istore 5, 2) := by decide +kernel
theorem dX8_isRing_89 : decode cX8_isRing 89 = .ok (.iconst 0, 1) := by decide +kernel
theorem dX8_isRing_90 : decode cX8_isRing 90 = .ok (.istore 6, 2) := by decide +kernel
theorem dX8_isRing_92 : decode cX8_isRing 92 = .ok (.iload 6, 2) := by decide +kernel
theorem dX8_isRing_94 : decode cX8_isRing 94 = .ok (.aload_n 0, 1) := by decide +kernel
theorem dX8_isRing_95 : decode cX8_isRing 95 = .ok (.getfield 61, 3) := by decide +kernel
theorem dX8_isRing_98 : decode cX8_isRing 98 = .ok (.if_icmp .ge 39, 3) := by decide +kernel
theorem dX8_isRing_101 : decode cX8_isRing 101 = .ok (.lload_n 1, 1) := by decide +kernel
theorem dX8_isRing_102 : decode cX8_isRing 102 = .ok (.iload 6, 2) := by decide +kernel
theorem dX8_isRing_104 : decode cX8_isRing 104 = .ok (.lshr, 1) := by decide +kernel
theorem dX8_isRing_105 : decode cX8_isRing 105 = .ok (.lconst 1, 1) := by decide +kernel
theorem dX8_isRing_106 : decode cX8_isRing 106 = .ok (.land, 1) := by decide +kernel
theorem dX8_isRing_107 : decode cX8_isRing 107 = .ok (.lconst 1, 1) := by decide +kernel
theorem dX8_isRing_108 : decode cX8_isRing 108 = .ok (.lcmp, 1) := by decide +kernel
theorem dX8_isRing_109 : decode cX8_isRing 109 = .ok (.ifCond .ne 22, 3) := by decide +kernel
theorem dX8_isRing_112 : decode cX8_isRing 112 = .ok (.iload 5, 2) := by decide +kernel
theorem dX8_isRing_114 : decode cX8_isRing 114 = .ok (.aload_n 0, 1) := by decide +kernel
theorem dX8_isRing_115 : decode cX8_isRing 115 = .ok (.iload 6, 2) := by decide +kernel
theorem dX8_isRing_117 : decode cX8_isRing 117 = .ok (.invokevirtual 70, 3) := by decide +kernel
theorem dX8_isRing_120 : decode cX8_isRing 120 = .ok (.ifCond .eq 7, 3) := by decide +kernel
theorem dX8_isRing_123 : decode cX8_isRing 123 = .ok (.iconst 1, 1) := by decide +kernel
theorem dX8_isRing_124 : decode cX8_isRing 124 = .ok (.goto 4, 3) := by decide +kernel
theorem dX8_isRing_127 : decode cX8_isRing 127 = .ok (.iconst 0, 1) := by decide +kernel
theorem dX8_isRing_128 : decode cX8_isRing 128 = .ok (.iadd, 1) := by decide +kernel
theorem dX8_isRing_129 : decode cX8_isRing 129 = .ok (.istore 5, 2) := by decide +kernel
theorem dX8_isRing_131 : decode cX8_isRing 131 = .ok (.iinc 6 1, 3) := by decide +kernel
theorem dX8_isRing_134 : decode cX8_isRing 134 = .ok (.goto (-42), 3) := by decide +kernel
theorem dX8_isRing_137 : decode cX8_isRing 137 = .ok (.iload_n 3, 1) := by decide +kernel
theorem dX8_isRing_138 : decode cX8_isRing 138 = .ok (.ifCond .eq 16, 3) := by decide +kernel
theorem dX8_isRing_141 : decode cX8_isRing 141 = .ok (.iload 5, 2) := by decide +kernel
theorem dX8_isRing_143 : decode cX8_isRing 143 = .ok (.iload 4, 2) := by decide +kernel
theorem dX8_isRing_145 : decode cX8_isRing 145 = .ok (.iconst 1, 1) := by decide +kernel
theorem dX8_isRing_146 : decode cX8_isRing 146 = .ok (.isub, 1) := by decide +kernel
theorem dX8_isRing_147 : decode cX8_isRing 147 = .ok (.if_icmp .ne 7, 3) := by decide +kernel
theorem dX8_isRing_150 : decode cX8_isRing 150 = .ok (.iconst 1, 1) := by decide +kernel
theorem dX8_isRing_151 : decode cX8_isRing 151 = .ok (.goto 4, 3) := by decide +kernel
theorem dX8_isRing_154 : decode cX8_isRing 154 = .ok (.iconst 0, 1) := by decide +kernel
theorem dX8_isRing_155 : decode cX8_isRing 155 = .ok (.ireturn, 1) := by decide +kernel
set_option maxRecDepth 20000 in
theorem ggX8_isCycle_X8_isSet : GoodIn wsX8_isCycle wsX8_isSet := goodIn_r _ [5, 6, 40, 41, 42, 43, 44, 45, 46, 47, 48, 49, 50, 51, 52, 53, 54, 55, 56, 57, 58, 59] (by decide +kernel) (by decide +kernel)
set_option maxRecDepth 20000 in
theorem gX8_isCycle_X8_isSet : GoodIn wsX8_isCycle (wsV RX8 89 RX8 yX8_isSet wsX8_isSet) := goodIn_app (goodIn_of _ (by decide +kernel)) ggX8_isCycle_X8_isSet
set_option maxRecDepth 20000 in
theorem ggX8_isCycle_X8_throwing : GoodIn wsX8_isCycle wsX8_throwing := goodIn_r _ [10, 11, 40, 41, 42, 43, 44, 45, 46, 47, 48, 49, 50, 51, 52, 53, 54, 55, 56, 57, 58, 59] (by decide +kernel) (by decide +kernel)
set_option maxRecDepth 20000 in
theorem gX8_isCycle_X8_throwing : GoodIn wsX8_isCycle (wsV RX8 78 RX8 yX8_throwing wsX8_throwing) := goodIn_app (goodIn_of _ (by decide +kernel)) ggX8_isCycle_X8_throwing
set_option maxRecDepth 20000 in
theorem ggX8_isCycle_X8_isEven : GoodIn wsX8_isCycle wsX8_isEven := goodIn_r _ [15, 16, 17, 18, 19, 4, 20, 6, 21, 22, 40, 41, 42, 43, 44, 45, 46, 47, 48, 49, 50, 51, 52, 53, 54, 55, 56, 57, 58, 59] (by decide +kernel) (by decide +kernel)
set_option maxRecDepth 20000 in
theorem gX8_isCycle_X8_isEven : GoodIn wsX8_isCycle (wsV RX8 121 RX8 yX8_isEven wsX8_isEven) := goodIn_app (goodIn_of _ (by decide +kernel)) ggX8_isCycle_X8_isEven
set_option maxRecDepth 20000 in
theorem ggX8_isCycle_X8_isRing : GoodIn wsX8_isCycle wsX8_isRing := goodIn_r _ [26, 16, 6, 17, 18, 19, 4, 20, 21, 22, 27, 28, 29, 30, 31, 32, 33, 34, 35, 36, 37, 38, 39, 40, 41, 42, 43, 44, 45, 46, 47, 48, 49, 50, 51, 52, 53, 54, 55, 56, 57, 58, 59] (by decide +kernel) (by decide +kernel)
set_option maxRecDepth 20000 in
theorem gX8_isCycle_X8_isRing : GoodIn wsX8_isCycle (wsV RX8 124 RX8 yX8_isRing wsX8_isRing) := goodIn_app (goodIn_of _ (by decide +kernel)) ggX8_isCycle_X8_isRing
theorem dX8_isCycle_0 : decode cX8_isCycle 0 = .ok (.aload_n 0, 1) := by decide +kernel
theorem dX8_isCycle_1 : decode cX8_isCycle 1 = .ok (.aload_n 0, 1) := by decide +kernel
theorem dX8_isCycle_2 : decode cX8_isCycle 2 = .ok (.lload_n 1, 1) := by decide +kernel
theorem dX8_isCycle_3 : decode cX8_isCycle 3 = .ok (.invokevirtual 89, 3) := by decide +kernel
theorem dX8_isCycle_6 : decode cX8_isCycle 6 = .ok (.ifCond .ne 7, 3) := by decide +kernel
theorem dX8_isCycle_9 : decode cX8_isCycle 9 = .ok (.iconst 1, 1) := by decide +kernel
theorem dX8_isCycle_10 : decode cX8_isCycle 10 = .ok (.goto 4, 3) := by decide +kernel
theorem dX8_isCycle_13 : decode cX8_isCycle 13 = .ok (.iconst 0, 1) := by decide +kernel
theorem dX8_isCycle_14 : decode cX8_isCycle 14 = .ok (.iconst 0, 1) := by decide +kernel
theorem dX8_isCycle_15 : decode cX8_isCycle 15 = .ok (.invokevirtual 78, 3) := by decide +kernel
theorem dX8_isCycle_18 : decode cX8_isCycle 18 = .ok (.ifCond .eq 5, 3) := by decide +kernel
theorem dX8_isCycle_21 : decode cX8_isCycle 21 = .ok (.iconst 0, 1) := by decide +kernel
theorem dX8_isCycle_22 : decode cX8_isCycle 22 = .ok (.ireturn, 1) := by decide +kernel
theorem dX8_isCycle_23 : decode cX8_isCycle 23 = .ok (.aload_n 0, 1) := by decide +kernel
theorem dX8_isCycle_24 : decode cX8_isCycle 24 = .ok (.lload_n 1, 1) := by decide +kernel
theorem dX8_isCycle_25 : decode cX8_isCycle 25 = .ok (.invokevirtual 121, 3) := by decide +kernel
theorem dX8_isCycle_28 : decode cX8_isCycle 28 = .ok (.ifCond .ne 7, 3) := by decide +kernel
theorem dX8_isCycle_31 : decode cX8_isCycle 31 = .ok (.iconst 0, 1) := by decide +kernel
theorem dX8_isCycle_32 : decode cX8_isCycle 32 = .ok (.goto 16, 3) := by decide +kernel
theorem dX8_isCycle_35 : decode cX8_isCycle 35 = .ok (.aload_n 0, 1) := by decide +kernel
theorem dX8_isCycle_36 : decode cX8_isCycle 36 = .ok (.lload_n 1, 1) := by decide +kernel
theorem dX8_isCycle_37 : decode cX8_isCycle 37 = .ok (.invokevirtual 124, 3) := by decide +kernel
theorem dX8_isCycle_40 : decode cX8_isCycle 40 = .ok (.ifCond .eq 7, 3) := by decide +kernel
theorem dX8_isCycle_43 : decode cX8_isCycle 43 = .ok (.iconst 2, 1) := by decide +kernel
theorem dX8_isCycle_44 : decode cX8_isCycle 44 = .ok (.goto 4, 3) := by decide +kernel
theorem dX8_isCycle_47 : decode cX8_isCycle 47 = .ok (.iconst 1, 1) := by decide +kernel
theorem dX8_isCycle_48 : decode cX8_isCycle 48 = .ok (.ireturn, 1) := by decide +kernel
set_option maxRecDepth 20000 in
theorem ggX8_through_X8_throwing : GoodIn wsX8_through wsX8_throwing := goodIn_r _ [9, 10, 44, 45, 46, 47, 48, 49, 50, 51, 52, 53, 54, 55, 56, 57, 58, 59, 60, 61, 62, 63] (by decide +kernel) (by decide +kernel)
set_option maxRecDepth 20000 in
theorem gX8_through_X8_throwing : GoodIn wsX8_through (wsV RX8 78 RX8 yX8_throwing wsX8_throwing) := goodIn_app (goodIn_of _ (by decide +kernel)) ggX8_through_X8_throwing
set_option maxRecDepth 20000 in
theorem ggX8_through_X8_spread : GoodIn wsX8_through wsX8_spread := goodIn_r _ [14, 3, 15, 16, 4, 17, 18, 19, 8, 20, 1, 21, 22, 23, 24, 25, 26, 27, 28, 29, 30, 31, 32, 33, 34, 35, 36, 37, 38, 39, 40, 41, 42, 43, 44, 45, 46, 47, 48, 49, 50, 51, 52, 53, 54, 55, 56, 57, 58, 59, 60, 61, 62, 63] (by decide +kernel) (by decide +kernel)
set_option maxRecDepth 20000 in
theorem gX8_through_X8_spread : GoodIn wsX8_through (wsV RX8 127 RX8 yX8_spread wsX8_spread) := goodIn_app (goodIn_of _ (by decide +kernel)) ggX8_through_X8_spread
theorem dX8_through_0 : decode cX8_through 0 = .ok (.aload_n 0, 1) := by decide +kernel
theorem dX8_through_1 : decode cX8_through 1 = .ok (.iload_n 1, 1) := by decide +kernel
theorem dX8_through_2 : decode cX8_through 2 = .ok (.ifCond .lt 11, 3) := by decide +kernel
theorem dX8_through_5 : decode cX8_through 5 = .ok (.iload_n 1, 1) := by decide +kernel
theorem dX8_through_6 : decode cX8_through 6 = .ok (.aload_n 0, 1) := by decide +kernel
theorem dX8_through_7 : decode cX8_through 7 = .ok (.getfield 61, 3) := by decide +kernel
theorem dX8_through_10 : decode cX8_through 10 = .ok (.if_icmp .lt 7, 3) := by decide +kernel
theorem dX8_through_13 : decode cX8_through 13 = .ok (.iconst 1, 1) := by decide +kernel
theorem dX8_through_14 : decode cX8_through 14 = .ok (.goto 4, 3) := by decide +kernel
theorem dX8_through_17 : decode cX8_through 17 = .ok (.iconst 0, 1) := by decide +kernel
theorem dX8_through_18 : decode cX8_through 18 = .ok (.iconst 0, 1) := by decide +kernel
theorem dX8_through_19 : decode cX8_through 19 = .ok (.invokevirtual 78, 3) := by decide +kernel
theorem dX8_through_22 : decode cX8_through 22 = .ok (.ifCond .eq 5, 3) := by decide +kernel
theorem dX8_through_25 : decode cX8_through 25 = .ok (.lconst 0, 1) := by decide +kernel
theorem dX8_through_26 : decode cX8_through 26 = .ok (.lreturn, 1) := by decide +kernel
theorem dX8_through_27 : decode cX8_through 27 = .ok (.aload_n 0, 1) := by decide +kernel
theorem dX8_through_28 : decode cX8_through 28 = .ok (.invokevirtual 127, 3) := by decide +kernel
theorem dX8_through_31 : decode cX8_through 31 = .ok (.istore_n 2, 1) := by decide +kernel
theorem dX8_through_32 : decode cX8_through 32 = .ok (.ldc2_w 111, 3) := by decide +kernel
theorem dX8_through_35 : decode cX8_through 35 = .ok (.lstore_n 3, 1) := by decide +kernel
theorem dX8_through_36 : decode cX8_through 36 = .ok (.iconst 1, 1) := by decide +kernel
theorem dX8_through_37 : decode cX8_through 37 = .ok (.istore 5, 2) := by decide +kernel
theorem dX8_through_39 : decode cX8_through 39 = .ok (.iload 5, 2) := by decide +kernel
theorem dX8_through_41 : decode cX8_through 41 = .ok (.iload_n 2, 1) := by decide +kernel
theorem dX8_through_42 : decode cX8_through 42 = .ok (.if_icmp .ge 51, 3) := by decide +kernel
theorem dX8_through_45 : decode cX8_through 45 = .ok (.aload_n 0, 1) := by decide +kernel
theorem dX8_through_46 : decode cX8_through 46 = .ok (.getfield 39, 3) := by decide +kernel
theorem dX8_through_49 : decode cX8_through 49 = .ok (.iload 5, 2) := by decide +kernel
theorem dX8_through_51 : decode cX8_through 51 = .ok (.laload, 1) := by decide +kernel
theorem dX8_through_52 : decode cX8_through 52 = .ok (.iload_n 1, 1) := by decide +kernel
theorem dX8_through_53 : decode cX8_through 53 = .ok (.lshr, 1) := by decide +kernel
theorem dX8_through_54 : decode cX8_through 54 = .ok (.lconst 1, 1) := by decide +kernel
theorem dX8_through_55 : decode cX8_through 55 = .ok (.land, 1) := by decide +kernel
theorem dX8_through_56 : decode cX8_through 56 = .ok (.lconst 1, 1) := by decide +kernel
theorem dX8_through_57 : decode cX8_through 57 = .ok (.lcmp, 1) := by decide +kernel
theorem dX8_through_58 : decode cX8_through 58 = .ok (.ifCond .ne 29, 3) := by decide +kernel
theorem dX8_through_61 : decode cX8_through 61 = .ok (.lload_n 3, 1) := by decide +kernel
theorem dX8_through_62 : decode cX8_through 62 = .ok (.lconst 0, 1) := by decide +kernel
theorem dX8_through_63 : decode cX8_through 63 = .ok (.lcmp, 1) := by decide +kernel
theorem dX8_through_64 : decode cX8_through 64 = .ok (.ifCond .lt 15, 3) := by decide +kernel
theorem dX8_through_67 : decode cX8_through 67 = .ok (.aload_n 0, 1) := by decide +kernel
theorem dX8_through_68 : decode cX8_through 68 = .ok (.getfield 42, 3) := by decide +kernel
theorem dX8_through_71 : decode cX8_through 71 = .ok (.iload 5, 2) := by decide +kernel
theorem dX8_through_73 : decode cX8_through 73 = .ok (.laload, 1) := by decide +kernel
theorem dX8_through_74 : decode cX8_through 74 = .ok (.lload_n 3, 1) := by decide +kernel
theorem dX8_through_75 : decode cX8_through 75 = .ok (.lcmp, 1) := by decide +kernel
theorem dX8_through_76 : decode cX8_through 76 = .ok (.ifCond .ge 11, 3) := by decide +kernel
theorem dX8_through_79 : decode cX8_through 79 = .ok (.aload_n 0, 1) := by decide +kernel
theorem dX8_through_80 : decode cX8_through 80 = .ok (.getfield 42, 3) := by decide +kernel
theorem dX8_through_83 : decode cX8_through 83 = .ok (.iload 5, 2) := by decide +kernel
theorem dX8_through_85 : decode cX8_through 85 = .ok (.laload, 1) := by decide +kernel
theorem dX8_through_86 : decode cX8_through 86 = .ok (.lstore_n 3, 1) := by decide +kernel
theorem dX8_through_87 : decode cX8_through 87 = .ok (.iinc 5 1, 3) := by decide +kernel
theorem dX8_through_90 : decode cX8_through 90 = .ok (.goto (-51), 3) := by decide +kernel
theorem dX8_through_93 : decode cX8_through 93 = .ok (.lload_n 3, 1) := by decide +kernel
theorem dX8_through_94 : decode cX8_through 94 = .ok (.lreturn, 1) := by decide +kernel
theorem dX8_rest_0 : decode cX8_rest 0 = .ok (.lload_n 1, 1) := by decide +kernel
theorem dX8_rest_1 : decode cX8_rest 1 = .ok (.lstore_n 3, 1) := by decide +kernel
theorem dX8_rest_2 : decode cX8_rest 2 = .ok (.iconst 0, 1) := by decide +kernel
theorem dX8_rest_3 : decode cX8_rest 3 = .ok (.istore 5, 2) := by decide +kernel
theorem dX8_rest_5 : decode cX8_rest 5 = .ok (.iload 5, 2) := by decide +kernel
theorem dX8_rest_7 : decode cX8_rest 7 = .ok (.aload_n 0, 1) := by decide +kernel
theorem dX8_rest_8 : decode cX8_rest 8 = .ok (.getfield 130, 3) := by decide +kernel
theorem dX8_rest_11 : decode cX8_rest 11 = .ok (.if_icmp .ge 33, 3) := by decide +kernel
theorem dX8_rest_14 : decode cX8_rest 14 = .ok (.lload_n 3, 1) := by decide +kernel
theorem dX8_rest_15 : decode cX8_rest 15 = .ok (.aload_n 0, 1) := by decide +kernel
theorem dX8_rest_16 : decode cX8_rest 16 = .ok (.getfield 45, 3) := by decide +kernel
theorem dX8_rest_19 : decode cX8_rest 19 = .ok (.iload 5, 2) := by decide +kernel
theorem dX8_rest_21 : decode cX8_rest 21 = .ok (.laload, 1) := by decide +kernel
theorem dX8_rest_22 : decode cX8_rest 22 = .ok (.lxor, 1) := by decide +kernel
theorem dX8_rest_23 : decode cX8_rest 23 = .ok (.lload_n 3, 1) := by decide +kernel
theorem dX8_rest_24 : decode cX8_rest 24 = .ok (.lcmp, 1) := by decide +kernel
theorem dX8_rest_25 : decode cX8_rest 25 = .ok (.ifCond .ge 13, 3) := by decide +kernel
theorem dX8_rest_28 : decode cX8_rest 28 = .ok (.lload_n 3, 1) := by decide +kernel
theorem dX8_rest_29 : decode cX8_rest 29 = .ok (.aload_n 0, 1) := by decide +kernel
theorem dX8_rest_30 : decode cX8_rest 30 = .ok (.getfield 45, 3) := by decide +kernel
theorem dX8_rest_33 : decode cX8_rest 33 = .ok (.iload 5, 2) := by decide +kernel
theorem dX8_rest_35 : decode cX8_rest 35 = .ok (.laload, 1) := by decide +kernel
theorem dX8_rest_36 : decode cX8_rest 36 = .ok (.lxor, 1) := by decide +kernel
theorem dX8_rest_37 : decode cX8_rest 37 = .ok (.lstore_n 3, 1) := by decide +kernel
theorem dX8_rest_38 : decode cX8_rest 38 = .ok (.iinc 5 1, 3) := by decide +kernel
theorem dX8_rest_41 : decode cX8_rest 41 = .ok (.goto (-36), 3) := by decide +kernel
theorem dX8_rest_44 : decode cX8_rest 44 = .ok (.lload_n 3, 1) := by decide +kernel
theorem dX8_rest_45 : decode cX8_rest 45 = .ok (.lreturn, 1) := by decide +kernel
set_option maxRecDepth 20000 in
theorem ggX8_take_X8_rest : GoodIn wsX8_take wsX8_rest := goodIn_r _ [7, 1, 2, 8, 9, 10, 11, 12, 13, 14, 15, 16, 17, 18, 19, 20, 21, 22, 23, 24, 25, 26, 27] (by decide +kernel) (by decide +kernel)
set_option maxRecDepth 20000 in
theorem gX8_take_X8_rest : GoodIn wsX8_take (wsV RX8 133 RX8 yX8_rest wsX8_rest) := goodIn_app (goodIn_of _ (by decide +kernel)) ggX8_take_X8_rest
theorem dX8_take_0 : decode cX8_take 0 = .ok (.aload_n 0, 1) := by decide +kernel
theorem dX8_take_1 : decode cX8_take 1 = .ok (.lload_n 1, 1) := by decide +kernel
theorem dX8_take_2 : decode cX8_take 2 = .ok (.invokevirtual 133, 3) := by decide +kernel
theorem dX8_take_5 : decode cX8_take 5 = .ok (.lstore_n 3, 1) := by decide +kernel
theorem dX8_take_6 : decode cX8_take 6 = .ok (.lload_n 3, 1) := by decide +kernel
theorem dX8_take_7 : decode cX8_take 7 = .ok (.lconst 0, 1) := by decide +kernel
theorem dX8_take_8 : decode cX8_take 8 = .ok (.lcmp, 1) := by decide +kernel
theorem dX8_take_9 : decode cX8_take 9 = .ok (.ifCond .ne 5, 3) := by decide +kernel
theorem dX8_take_12 : decode cX8_take 12 = .ok (.iconst 0, 1) := by decide +kernel
theorem dX8_take_13 : decode cX8_take 13 = .ok (.ireturn, 1) := by decide +kernel
theorem dX8_take_14 : decode cX8_take 14 = .ok (.aload_n 0, 1) := by decide +kernel
theorem dX8_take_15 : decode cX8_take 15 = .ok (.getfield 130, 3) := by decide +kernel
theorem dX8_take_18 : decode cX8_take 18 = .ok (.istore 5, 2) := by decide +kernel
theorem dX8_take_20 : decode cX8_take 20 = .ok (.iload 5, 2) := by decide +kernel
theorem dX8_take_22 : decode cX8_take 22 = .ok (.ifCond .le 39, 3) := by decide +kernel
theorem dX8_take_25 : decode cX8_take 25 = .ok (.aload_n 0, 1) := by decide +kernel
theorem dX8_take_26 : decode cX8_take 26 = .ok (.getfield 45, 3) := by decide +kernel
theorem dX8_take_29 : decode cX8_take 29 = .ok (.iload 5, 2) := by decide +kernel
theorem dX8_take_31 : decode cX8_take 31 = .ok (.iconst 1, 1) := by decide +kernel
theorem dX8_take_32 : decode cX8_take 32 = .ok (.isub, 1) := by decide +kernel
theorem dX8_take_33 : decode cX8_take 33 = .ok (.laload, 1) := by decide +kernel
theorem dX8_take_34 : decode cX8_take 34 = .ok (.lload_n 3, 1) := by decide +kernel
theorem dX8_take_35 : decode cX8_take 35 = .ok (.lcmp, 1) := by decide +kernel
theorem dX8_take_36 : decode cX8_take 36 = .ok (.ifCond .ge 25, 3) := by decide +kernel
theorem dX8_take_39 : decode cX8_take 39 = .ok (.aload_n 0, 1) := by decide +kernel
theorem dX8_take_40 : decode cX8_take 40 = .ok (.getfield 45, 3) := by decide +kernel
theorem dX8_take_43 : decode cX8_take 43 = .ok (.iload 5, 2) := by decide +kernel
theorem dX8_take_45 : decode cX8_take 45 = .ok (.aload_n 0, 1) := by decide +kernel
theorem dX8_take_46 : decode cX8_take 46 = .ok (.getfield 45, 3) := by decide +kernel
theorem dX8_take_49 : decode cX8_take 49 = .ok (.iload 5, 2) := by decide +kernel
theorem dX8_take_51 : decode cX8_take 51 = .ok (.iconst 1, 1) := by decide +kernel
theorem dX8_take_52 : decode cX8_take 52 = .ok (.isub, 1) := by decide +kernel
theorem dX8_take_53 : decode cX8_take 53 = .ok (.laload, 1) := by decide +kernel
theorem dX8_take_54 : decode cX8_take 54 = .ok (.lastore, 1) := by decide +kernel
theorem dX8_take_55 : decode cX8_take 55 = .ok (.iinc 5 (-1), 3) := by decide +kernel
theorem dX8_take_58 : decode cX8_take 58 = .ok (.goto (-38), 3) := by decide +kernel
theorem dX8_take_61 : decode cX8_take 61 = .ok (.aload_n 0, 1) := by decide +kernel
theorem dX8_take_62 : decode cX8_take 62 = .ok (.getfield 45, 3) := by decide +kernel
theorem dX8_take_65 : decode cX8_take 65 = .ok (.iload 5, 2) := by decide +kernel
theorem dX8_take_67 : decode cX8_take 67 = .ok (.lload_n 3, 1) := by decide +kernel
theorem dX8_take_68 : decode cX8_take 68 = .ok (.lastore, 1) := by decide +kernel
theorem dX8_take_69 : decode cX8_take 69 = .ok (.aload_n 0, 1) := by decide +kernel
theorem dX8_take_70 : decode cX8_take 70 = .ok (.dup, 1) := by decide +kernel
theorem dX8_take_71 : decode cX8_take 71 = .ok (.getfield 130, 3) := by decide +kernel
theorem dX8_take_74 : decode cX8_take 74 = .ok (.iconst 1, 1) := by decide +kernel
theorem dX8_take_75 : decode cX8_take 75 = .ok (.iadd, 1) := by decide +kernel
theorem dX8_take_76 : decode cX8_take 76 = .ok (.putfield 130, 3) := by decide +kernel
theorem dX8_take_79 : decode cX8_take 79 = .ok (.iconst 1, 1) := by decide +kernel
theorem dX8_take_80 : decode cX8_take 80 = .ok (.ireturn, 1) := by decide +kernel
set_option maxRecDepth 20000 in
theorem ggX8_basis_X8_dimension : GoodIn wsX8_basis wsX8_dimension := goodIn_r _ [7, 8, 9, 10, 11, 12, 6, 13, 14, 15, 16, 17, 18, 19, 20, 21, 22, 23, 24, 25, 26, 27, 28, 53, 54, 55, 56, 57, 58, 59, 60, 61, 62, 63, 64, 65, 66, 67, 68, 69, 70, 71, 72] (by decide +kernel) (by decide +kernel)
set_option maxRecDepth 20000 in
theorem gX8_basis_X8_dimension : GoodIn wsX8_basis (wsV RX8 86 RX8 yX8_dimension wsX8_dimension) := goodIn_app (goodIn_of _ (by decide +kernel)) ggX8_basis_X8_dimension
set_option maxRecDepth 20000 in
theorem ggX8_basis_X8_throwing : GoodIn wsX8_basis wsX8_throwing := goodIn_r _ [32, 33, 53, 54, 55, 56, 57, 58, 59, 60, 61, 62, 63, 64, 65, 66, 67, 68, 69, 70, 71, 72] (by decide +kernel) (by decide +kernel)
set_option maxRecDepth 20000 in
theorem gX8_basis_X8_throwing : GoodIn wsX8_basis (wsV RX8 78 RX8 yX8_throwing wsX8_throwing) := goodIn_app (goodIn_of _ (by decide +kernel)) ggX8_basis_X8_throwing
set_option maxRecDepth 20000 in
theorem ggX8_basis_X8_spread : GoodIn wsX8_basis wsX8_spread := goodIn_r _ [37, 38, 18, 27, 2, 3, 4, 5, 6, 7, 8, 9, 10, 11, 12, 13, 14, 15, 16, 17, 19, 20, 21, 22, 23, 24, 25, 26, 28, 39, 40, 41, 42, 43, 53, 54, 55, 56, 57, 58, 59, 60, 61, 62, 63, 64, 65, 66, 67, 68, 69, 70, 71, 72] (by decide +kernel) (by decide +kernel)
set_option maxRecDepth 20000 in
theorem gX8_basis_X8_spread : GoodIn wsX8_basis (wsV RX8 127 RX8 yX8_spread wsX8_spread) := goodIn_app (goodIn_of _ (by decide +kernel)) ggX8_basis_X8_spread
set_option maxRecDepth 20000 in
theorem ggX8_basis_X8_rest : GoodIn wsX8_basis wsX8_rest := goodIn_r _ [47, 1, 48, 53, 54, 55, 56, 57, 58, 59, 60, 61, 62, 63, 64, 65, 66, 67, 68, 69, 70, 71, 72] (by decide +kernel) (by decide +kernel)
set_option maxRecDepth 20000 in
theorem gX8_basis_X8_rest : GoodIn wsX8_basis (wsV RX8 133 RX8 yX8_rest wsX8_rest) := goodIn_app (goodIn_of _ (by decide +kernel)) ggX8_basis_X8_rest
set_option maxRecDepth 20000 in
theorem ggX8_basis_X8_take : GoodIn wsX8_basis wsX8_take := goodIn_r _ [52, 1, 48, 44, 45, 46, 6, 47, 53, 54, 55, 56, 57, 58, 59, 60, 61, 62, 63, 64, 65, 66, 67, 68, 69, 70, 71, 72] (by decide +kernel) (by decide +kernel)
set_option maxRecDepth 20000 in
theorem gX8_basis_X8_take : GoodIn wsX8_basis (wsV RX8 136 RX8 yX8_take wsX8_take) := goodIn_app (goodIn_of _ (by decide +kernel)) ggX8_basis_X8_take
theorem dX8_basis_0 : decode cX8_basis 0 = .ok (.aload_n 0, 1) := by decide +kernel
theorem dX8_basis_1 : decode cX8_basis 1 = .ok (.invokevirtual 86, 3) := by decide +kernel
theorem dX8_basis_4 : decode cX8_basis 4 = .ok (.istore_n 2, 1) := by decide +kernel
theorem dX8_basis_5 : decode cX8_basis 5 = .ok (.aload_n 0, 1) := by decide +kernel
theorem dX8_basis_6 : decode cX8_basis 6 = .ok (.iload_n 1, 1) := by decide +kernel
theorem dX8_basis_7 : decode cX8_basis 7 = .ok (.ifCond .lt 8, 3) := by decide +kernel
theorem dX8_basis_10 : decode cX8_basis 10 = .ok (.iload_n 1, 1) := by decide +kernel
theorem dX8_basis_11 : decode cX8_basis 11 = .ok (.iload_n 2, 1) := by decide +kernel
theorem dX8_basis_12 : decode cX8_basis 12 = .ok (.if_icmp .lt 7, 3) := by decide +kernel
theorem dX8_basis_15 : decode cX8_basis 15 = .ok (.iconst 1, 1) := by decide +kernel
theorem dX8_basis_16 : decode cX8_basis 16 = .ok (.goto 4, 3) := by decide +kernel
theorem dX8_basis_19 : decode cX8_basis 19 = .ok (.iconst 0, 1) := by decide +kernel
theorem dX8_basis_20 : decode cX8_basis 20 = .ok (.iconst 0, 1) := by decide +kernel
theorem dX8_basis_21 : decode cX8_basis 21 = .ok (.invokevirtual 78, 3) := by decide +kernel
theorem dX8_basis_24 : decode cX8_basis 24 = .ok (.ifCond .eq 5, 3) := by decide +kernel
theorem dX8_basis_27 : decode cX8_basis 27 = .ok (.lconst 0, 1) := by decide +kernel
theorem dX8_basis_28 : decode cX8_basis 28 = .ok (.lreturn, 1) := by decide +kernel
theorem dX8_basis_29 : decode cX8_basis 29 = .ok (.aload_n 0, 1) := by decide +kernel
theorem dX8_basis_30 : decode cX8_basis 30 = .ok (.invokevirtual 127, 3) := by decide +kernel
theorem dX8_basis_33 : decode cX8_basis 33 = .ok (.istore_n 3, 1) := by decide +kernel
theorem dX8_basis_34 : decode cX8_basis 34 = .ok (.aload_n 0, 1) := by decide +kernel
theorem dX8_basis_35 : decode cX8_basis 35 = .ok (.iconst 0, 1) := by decide +kernel
theorem dX8_basis_36 : decode cX8_basis 36 = .ok (.putfield 130, 3) := by decide +kernel
theorem dX8_basis_39 : decode cX8_basis 39 = .ok (.lconst 0, 1) := by decide +kernel
theorem dX8_basis_40 : decode cX8_basis 40 = .ok (.lstore 4, 2) := by decide +kernel
theorem dX8_basis_42 : decode cX8_basis 42 = .ok (.iconst 0, 1) := by decide +kernel
theorem dX8_basis_43 : decode cX8_basis 43 = .ok (.istore 6, 2) := by decide +kernel
theorem dX8_basis_45 : decode cX8_basis 45 = .ok (.iload 6, 2) := by decide +kernel
theorem dX8_basis_47 : decode cX8_basis 47 = .ok (.iload_n 1, 1) := by decide +kernel
theorem dX8_basis_48 : decode cX8_basis 48 = .ok (.if_icmp .gt 83, 3) := by decide +kernel
theorem dX8_basis_51 : decode cX8_basis 51 = .ok (.iconst (-1), 1) := by decide +kernel
theorem dX8_basis_52 : decode cX8_basis 52 = .ok (.istore 7, 2) := by decide +kernel
theorem dX8_basis_54 : decode cX8_basis 54 = .ok (.iconst 1, 1) := by decide +kernel
theorem dX8_basis_55 : decode cX8_basis 55 = .ok (.istore 8, 2) := by decide +kernel
theorem dX8_basis_57 : decode cX8_basis 57 = .ok (.iload 8, 2) := by decide +kernel
theorem dX8_basis_59 : decode cX8_basis 59 = .ok (.iload_n 3, 1) := by decide +kernel
theorem dX8_basis_60 : decode cX8_basis 60 = .ok (.if_icmp .ge 48, 3) := by decide +kernel
theorem dX8_basis_63 : decode cX8_basis 63 = .ok (.iload 7, 2) := by decide +kernel
theorem dX8_basis_65 : decode cX8_basis 65 = .ok (.ifCond .lt 21, 3) := by decide +kernel
theorem dX8_basis_68 : decode cX8_basis 68 = .ok (.aload_n 0, 1) := by decide +kernel
theorem dX8_basis_69 : decode cX8_basis 69 = .ok (.getfield 42, 3) := by decide +kernel
theorem dX8_basis_72 : decode cX8_basis 72 = .ok (.iload 8, 2) := by decide +kernel
theorem dX8_basis_74 : decode cX8_basis 74 = .ok (.laload, 1) := by decide +kernel
theorem dX8_basis_75 : decode cX8_basis 75 = .ok (.aload_n 0, 1) := by decide +kernel
theorem dX8_basis_76 : decode cX8_basis 76 = .ok (.getfield 42, 3) := by decide +kernel
theorem dX8_basis_79 : decode cX8_basis 79 = .ok (.iload 7, 2) := by decide +kernel
theorem dX8_basis_81 : decode cX8_basis 81 = .ok (.laload, 1) := by decide +kernel
theorem dX8_basis_82 : decode cX8_basis 82 = .ok (.lcmp, 1) := by decide +kernel
theorem dX8_basis_83 : decode cX8_basis 83 = .ok (.ifCond .ge 19, 3) := by decide +kernel
theorem dX8_basis_86 : decode cX8_basis 86 = .ok (.aload_n 0, 1) := by decide +kernel
theorem dX8_basis_87 : decode cX8_basis 87 = .ok (.iload 8, 2) := by decide +kernel
theorem dX8_basis_89 : decode cX8_basis 89 = .ok (.i2l, 1) := by decide +kernel
theorem dX8_basis_90 : decode cX8_basis 90 = .ok (.invokevirtual 133, 3) := by decide +kernel
theorem dX8_basis_93 : decode cX8_basis 93 = .ok (.lconst 0, 1) := by decide +kernel
theorem dX8_basis_94 : decode cX8_basis 94 = .ok (.lcmp, 1) := by decide +kernel
theorem dX8_basis_95 : decode cX8_basis 95 = .ok (.ifCond .eq 7, 3) := by decide +kernel
theorem dX8_basis_98 : decode cX8_basis 98 = .ok (.iload 8, 2) := by decide +kernel
theorem dX8_basis_100 : decode cX8_basis 100 = .ok (.istore 7, 2) := by decide +kernel
theorem dX8_basis_102 : decode cX8_basis 102 = .ok (.iinc 8 1, 3) := by decide +kernel
theorem dX8_basis_105 : decode cX8_basis 105 = .ok (.goto (-48), 3) := by decide +kernel
theorem dX8_basis_108 : decode cX8_basis 108 = .ok (.aload_n 0, 1) := by decide +kernel
theorem dX8_basis_109 : decode cX8_basis 109 = .ok (.getfield 42, 3) := by decide +kernel
theorem dX8_basis_112 : decode cX8_basis 112 = .ok (.iload 7, 2) := by decide +kernel
theorem dX8_basis_114 : decode cX8_basis 114 = .ok (.laload, 1) := by decide +kernel
theorem dX8_basis_115 : decode cX8_basis 115 = .ok (.lstore 4, 2) := by decide +kernel
theorem dX8_basis_117 : decode cX8_basis 117 = .ok (.aload_n 0, 1) := by decide +kernel
theorem dX8_basis_118 : decode cX8_basis 118 = .ok (.iload 7, 2) := by decide +kernel
theorem dX8_basis_120 : decode cX8_basis 120 = .ok (.i2l, 1) := by decide +kernel
theorem dX8_basis_121 : decode cX8_basis 121 = .ok (.invokevirtual 136, 3) := by decide +kernel
theorem dX8_basis_124 : decode cX8_basis 124 = .ok (.pop, 1) := by decide +kernel
theorem dX8_basis_125 : decode cX8_basis 125 = .ok (.iinc 6 1, 3) := by decide +kernel
theorem dX8_basis_128 : decode cX8_basis 128 = .ok (.goto (-83), 3) := by decide +kernel
theorem dX8_basis_131 : decode cX8_basis 131 = .ok (.lload 4, 2) := by decide +kernel
theorem dX8_basis_133 : decode cX8_basis 133 = .ok (.lreturn, 1) := by decide +kernel
theorem dX8_numberOf_0 : decode cX8_numberOf 0 = .ok (.iconst 0, 1) := by decide +kernel
theorem dX8_numberOf_1 : decode cX8_numberOf 1 = .ok (.istore_n 3, 1) := by decide +kernel
theorem dX8_numberOf_2 : decode cX8_numberOf 2 = .ok (.iconst 0, 1) := by decide +kernel
theorem dX8_numberOf_3 : decode cX8_numberOf 3 = .ok (.istore 4, 2) := by decide +kernel
theorem dX8_numberOf_5 : decode cX8_numberOf 5 = .ok (.iload 4, 2) := by decide +kernel
theorem dX8_numberOf_7 : decode cX8_numberOf 7 = .ok (.aload_n 0, 1) := by decide +kernel
theorem dX8_numberOf_8 : decode cX8_numberOf 8 = .ok (.getfield 64, 3) := by decide +kernel
theorem dX8_numberOf_11 : decode cX8_numberOf 11 = .ok (.if_icmp .ge 36, 3) := by decide +kernel
theorem dX8_numberOf_14 : decode cX8_numberOf 14 = .ok (.iload_n 3, 1) := by decide +kernel
theorem dX8_numberOf_15 : decode cX8_numberOf 15 = .ok (.lload_n 1, 1) := by decide +kernel
theorem dX8_numberOf_16 : decode cX8_numberOf 16 = .ok (.aload_n 0, 1) := by decide +kernel
theorem dX8_numberOf_17 : decode cX8_numberOf 17 = .ok (.getfield 36, 3) := by decide +kernel
theorem dX8_numberOf_20 : decode cX8_numberOf 20 = .ok (.iload 4, 2) := by decide +kernel
theorem dX8_numberOf_22 : decode cX8_numberOf 22 = .ok (.iaload, 1) := by decide +kernel
theorem dX8_numberOf_23 : decode cX8_numberOf 23 = .ok (.lshr, 1) := by decide +kernel
theorem dX8_numberOf_24 : decode cX8_numberOf 24 = .ok (.lconst 1, 1) := by decide +kernel
theorem dX8_numberOf_25 : decode cX8_numberOf 25 = .ok (.land, 1) := by decide +kernel
theorem dX8_numberOf_26 : decode cX8_numberOf 26 = .ok (.lconst 1, 1) := by decide +kernel
theorem dX8_numberOf_27 : decode cX8_numberOf 27 = .ok (.lcmp, 1) := by decide +kernel
theorem dX8_numberOf_28 : decode cX8_numberOf 28 = .ok (.ifCond .ne 10, 3) := by decide +kernel
theorem dX8_numberOf_31 : decode cX8_numberOf 31 = .ok (.iconst 1, 1) := by decide +kernel
theorem dX8_numberOf_32 : decode cX8_numberOf 32 = .ok (.iload 4, 2) := by decide +kernel
theorem dX8_numberOf_34 : decode cX8_numberOf 34 = .ok (.ishl, 1) := by decide +kernel
theorem dX8_numberOf_35 : decode cX8_numberOf 35 = .ok (.goto 4, 3) := by decide +kernel
theorem dX8_numberOf_38 : decode cX8_numberOf 38 = .ok (.iconst 0, 1) := by decide +kernel
theorem dX8_numberOf_39 : decode cX8_numberOf 39 = .ok (.ior, 1) := by decide +kernel
theorem dX8_numberOf_40 : decode cX8_numberOf 40 = .ok (.istore_n 3, 1) := by decide +kernel
theorem dX8_numberOf_41 : decode cX8_numberOf 41 = .ok (.iinc 4 1, 3) := by decide +kernel
theorem dX8_numberOf_44 : decode cX8_numberOf 44 = .ok (.goto (-39), 3) := by decide +kernel
theorem dX8_numberOf_47 : decode cX8_numberOf 47 = .ok (.iload_n 3, 1) := by decide +kernel
theorem dX8_numberOf_48 : decode cX8_numberOf 48 = .ok (.ireturn, 1) := by decide +kernel
set_option maxRecDepth 20000 in
theorem ggX8_belongs_X8_isSet : GoodIn wsX8_belongs wsX8_isSet := goodIn_r _ [7, 8, 69, 70, 71, 72, 73, 74, 75, 76, 77, 78, 79, 80, 81, 82, 83, 84, 85, 86, 87, 88] (by decide +kernel) (by decide +kernel)
set_option maxRecDepth 20000 in
theorem gX8_belongs_X8_isSet : GoodIn wsX8_belongs (wsV RX8 89 RX8 yX8_isSet wsX8_isSet) := goodIn_app (goodIn_of _ (by decide +kernel)) ggX8_belongs_X8_isSet
set_option maxRecDepth 20000 in
theorem ggX8_belongs_X8_throwing : GoodIn wsX8_belongs wsX8_throwing := goodIn_r _ [12, 13, 69, 70, 71, 72, 73, 74, 75, 76, 77, 78, 79, 80, 81, 82, 83, 84, 85, 86, 87, 88] (by decide +kernel) (by decide +kernel)
set_option maxRecDepth 20000 in
theorem gX8_belongs_X8_throwing : GoodIn wsX8_belongs (wsV RX8 78 RX8 yX8_throwing wsX8_throwing) := goodIn_app (goodIn_of _ (by decide +kernel)) ggX8_belongs_X8_throwing
set_option maxRecDepth 20000 in
theorem ggX8_belongs_X8_isEven : GoodIn wsX8_belongs wsX8_isEven := goodIn_r _ [17, 18, 19, 20, 21, 6, 22, 8, 23, 24, 69, 70, 71, 72, 73, 74, 75, 76, 77, 78, 79, 80, 81, 82, 83, 84, 85, 86, 87, 88] (by decide +kernel) (by decide +kernel)
set_option maxRecDepth 20000 in
theorem gX8_belongs_X8_isEven : GoodIn wsX8_belongs (wsV RX8 121 RX8 yX8_isEven wsX8_isEven) := goodIn_app (goodIn_of _ (by decide +kernel)) ggX8_belongs_X8_isEven
set_option maxRecDepth 20000 in
theorem ggX8_belongs_X8_spread : GoodIn wsX8_belongs wsX8_spread := goodIn_r _ [28, 29, 30, 31, 2, 32, 33, 34, 6, 35, 8, 18, 36, 37, 38, 39, 40, 41, 42, 43, 44, 45, 46, 47, 48, 49, 23, 24, 50, 51, 52, 53, 54, 55, 69, 70, 71, 72, 73, 74, 75, 76, 77, 78, 79, 80, 81, 82, 83, 84, 85, 86, 87, 88] (by decide +kernel) (by decide +kernel)
set_option maxRecDepth 20000 in
theorem gX8_belongs_X8_spread : GoodIn wsX8_belongs (wsV RX8 127 RX8 yX8_spread wsX8_spread) := goodIn_app (goodIn_of _ (by decide +kernel)) ggX8_belongs_X8_spread
set_option maxRecDepth 20000 in
theorem ggX8_belongs_X8_numberOf : GoodIn wsX8_belongs wsX8_numberOf := goodIn_r _ [59, 30, 50, 69, 70, 71, 72, 73, 74, 75, 76, 77, 78, 79, 80, 81, 82, 83, 84, 85, 86, 87, 88] (by decide +kernel) (by decide +kernel)
set_option maxRecDepth 20000 in
theorem gX8_belongs_X8_numberOf : GoodIn wsX8_belongs (wsV RX8 139 RX8 yX8_numberOf wsX8_numberOf) := goodIn_app (goodIn_of _ (by decide +kernel)) ggX8_belongs_X8_numberOf
set_option maxRecDepth 20000 in
theorem ggX8_belongs_X8_take : GoodIn wsX8_belongs wsX8_take := goodIn_r _ [63, 1, 64, 65, 66, 67, 6, 68, 69, 70, 71, 72, 73, 74, 75, 76, 77, 78, 79, 80, 81, 82, 83, 84, 85, 86, 87, 88] (by decide +kernel) (by decide +kernel)
set_option maxRecDepth 20000 in
theorem gX8_belongs_X8_take : GoodIn wsX8_belongs (wsV RX8 136 RX8 yX8_take wsX8_take) := goodIn_app (goodIn_of _ (by decide +kernel)) ggX8_belongs_X8_take
set_option maxRecDepth 20000 in
theorem ggX8_belongs_X8_rest : GoodIn wsX8_belongs wsX8_rest := goodIn_r _ [68, 1, 64, 69, 70, 71, 72, 73, 74, 75, 76, 77, 78, 79, 80, 81, 82, 83, 84, 85, 86, 87, 88] (by decide +kernel) (by decide +kernel)
set_option maxRecDepth 20000 in
theorem gX8_belongs_X8_rest : GoodIn wsX8_belongs (wsV RX8 133 RX8 yX8_rest wsX8_rest) := goodIn_app (goodIn_of _ (by decide +kernel)) ggX8_belongs_X8_rest
theorem dX8_belongs_0 : decode cX8_belongs 0 = .ok (.aload_n 0, 1) := by decide +kernel
theorem dX8_belongs_1 : decode cX8_belongs 1 = .ok (.aload_n 0, 1) := by decide +kernel
theorem dX8_belongs_2 : decode cX8_belongs 2 = .ok (.lload_n 1, 1) := by decide +kernel
theorem dX8_belongs_3 : decode cX8_belongs 3 = .ok (.invokevirtual 89, 3) := by decide +kernel
theorem dX8_belongs_6 : decode cX8_belongs 6 = .ok (.ifCond .ne 7, 3) := by decide +kernel
theorem dX8_belongs_9 : decode cX8_belongs 9 = .ok (.iconst 1, 1) := by decide +kernel
theorem dX8_belongs_10 : decode cX8_belongs 10 = .ok (.goto 4, 3) := by decide +kernel
theorem dX8_belongs_13 : decode cX8_belongs 13 = .ok (.iconst 0, 1) := by decide +kernel
theorem dX8_belongs_14 : decode cX8_belongs 14 = .ok (.iconst 0, 1) := by decide +kernel
theorem dX8_belongs_15 : decode cX8_belongs 15 = .ok (.invokevirtual 78, 3) := by decide +kernel
theorem dX8_belongs_18 : decode cX8_belongs 18 = .ok (.ifCond .eq 5, 3) := by decide +kernel
theorem dX8_belongs_21 : decode cX8_belongs 21 = .ok (.iconst 0, 1) := by decide +kernel
theorem dX8_belongs_22 : decode cX8_belongs 22 = .ok (.ireturn, 1) := by decide +kernel
theorem dX8_belongs_23 : decode cX8_belongs 23 = .ok (.lload_n 1, 1) := by decide +kernel
theorem dX8_belongs_24 : decode cX8_belongs 24 = .ok (.lconst 0, 1) := by decide +kernel
theorem dX8_belongs_25 : decode cX8_belongs 25 = .ok (.lcmp, 1) := by decide +kernel
theorem dX8_belongs_26 : decode cX8_belongs 26 = .ok (.ifCond .eq 11, 3) := by decide +kernel
theorem dX8_belongs_29 : decode cX8_belongs 29 = .ok (.aload_n 0, 1) := by decide +kernel
theorem dX8_belongs_30 : decode cX8_belongs 30 = .ok (.lload_n 1, 1) := by decide +kernel
theorem dX8_belongs_31 : decode cX8_belongs 31 = .ok (.invokevirtual 121, 3) := by decide +kernel
theorem dX8_belongs_34 : decode cX8_belongs 34 = .ok (.ifCond .ne 5, 3) := by decide +kernel
theorem dX8_belongs_37 : decode cX8_belongs 37 = .ok (.iconst 0, 1) := by decide +kernel
theorem dX8_belongs_38 : decode cX8_belongs 38 = .ok (.ireturn, 1) := by decide +kernel
theorem dX8_belongs_39 : decode cX8_belongs 39 = .ok (.aload_n 0, 1) := by decide +kernel
theorem dX8_belongs_40 : decode cX8_belongs 40 = .ok (.invokevirtual 127, 3) := by decide +kernel
theorem dX8_belongs_43 : decode cX8_belongs 43 = .ok (.istore_n 3, 1) := by decide +kernel
theorem dX8_belongs_44 : decode cX8_belongs 44 = .ok (.aload_n 0, 1) := by decide +kernel
theorem dX8_belongs_45 : decode cX8_belongs 45 = .ok (.lload_n 1, 1) := by decide +kernel
theorem dX8_belongs_46 : decode cX8_belongs 46 = .ok (.invokevirtual 139, 3) := by decide +kernel
theorem dX8_belongs_49 : decode cX8_belongs 49 = .ok (.istore 4, 2) := by decide +kernel
theorem dX8_belongs_51 : decode cX8_belongs 51 = .ok (.aload_n 0, 1) := by decide +kernel
theorem dX8_belongs_52 : decode cX8_belongs 52 = .ok (.iconst 0, 1) := by decide +kernel
theorem dX8_belongs_53 : decode cX8_belongs 53 = .ok (.putfield 130, 3) := by decide +kernel
theorem dX8_belongs_56 : decode cX8_belongs 56 = .ok (.iconst 1, 1) := by decide +kernel
theorem dX8_belongs_57 : decode cX8_belongs 57 = .ok (.istore 5, 2) := by decide +kernel
theorem dX8_belongs_59 : decode cX8_belongs 59 = .ok (.iload 5, 2) := by decide +kernel
theorem dX8_belongs_61 : decode cX8_belongs 61 = .ok (.iload_n 3, 1) := by decide +kernel
theorem dX8_belongs_62 : decode cX8_belongs 62 = .ok (.if_icmp .ge 39, 3) := by decide +kernel
theorem dX8_belongs_65 : decode cX8_belongs 65 = .ok (.aload_n 0, 1) := by decide +kernel
theorem dX8_belongs_66 : decode cX8_belongs 66 = .ok (.getfield 42, 3) := by decide +kernel
theorem dX8_belongs_69 : decode cX8_belongs 69 = .ok (.iload 5, 2) := by decide +kernel
theorem dX8_belongs_71 : decode cX8_belongs 71 = .ok (.laload, 1) := by decide +kernel
theorem dX8_belongs_72 : decode cX8_belongs 72 = .ok (.aload_n 0, 1) := by decide +kernel
theorem dX8_belongs_73 : decode cX8_belongs 73 = .ok (.getfield 42, 3) := by decide +kernel
theorem dX8_belongs_76 : decode cX8_belongs 76 = .ok (.iload 4, 2) := by decide +kernel
theorem dX8_belongs_78 : decode cX8_belongs 78 = .ok (.laload, 1) := by decide +kernel
theorem dX8_belongs_79 : decode cX8_belongs 79 = .ok (.lcmp, 1) := by decide +kernel
theorem dX8_belongs_80 : decode cX8_belongs 80 = .ok (.ifCond .lt 6, 3) := by decide +kernel
theorem dX8_belongs_83 : decode cX8_belongs 83 = .ok (.goto 12, 3) := by decide +kernel
theorem dX8_belongs_86 : decode cX8_belongs 86 = .ok (.aload_n 0, 1) := by decide +kernel
theorem dX8_belongs_87 : decode cX8_belongs 87 = .ok (.iload 5, 2) := by decide +kernel
theorem dX8_belongs_89 : decode cX8_belongs 89 = .ok (.i2l, 1) := by decide +kernel
theorem dX8_belongs_90 : decode cX8_belongs 90 = .ok (.invokevirtual 136, 3) := by decide +kernel
theorem dX8_belongs_93 : decode cX8_belongs 93 = .ok (.istore 6, 2) := by decide +kernel
theorem dX8_belongs_95 : decode cX8_belongs 95 = .ok (.iinc 5 1, 3) := by decide +kernel
theorem dX8_belongs_98 : decode cX8_belongs 98 = .ok (.goto (-39), 3) := by decide +kernel
theorem dX8_belongs_101 : decode cX8_belongs 101 = .ok (.aload_n 0, 1) := by decide +kernel
theorem dX8_belongs_102 : decode cX8_belongs 102 = .ok (.iload 4, 2) := by decide +kernel
theorem dX8_belongs_104 : decode cX8_belongs 104 = .ok (.i2l, 1) := by decide +kernel
theorem dX8_belongs_105 : decode cX8_belongs 105 = .ok (.invokevirtual 133, 3) := by decide +kernel
theorem dX8_belongs_108 : decode cX8_belongs 108 = .ok (.lconst 0, 1) := by decide +kernel
theorem dX8_belongs_109 : decode cX8_belongs 109 = .ok (.lcmp, 1) := by decide +kernel
theorem dX8_belongs_110 : decode cX8_belongs 110 = .ok (.ifCond .eq 7, 3) := by decide +kernel
theorem dX8_belongs_113 : decode cX8_belongs 113 = .ok (.iconst 1, 1) := by decide +kernel
theorem dX8_belongs_114 : decode cX8_belongs 114 = .ok (.goto 4, 3) := by decide +kernel
theorem dX8_belongs_117 : decode cX8_belongs 117 = .ok (.iconst 0, 1) := by decide +kernel
theorem dX8_belongs_118 : decode cX8_belongs 118 = .ok (.ireturn, 1) := by decide +kernel
set_option maxRecDepth 20000 in
theorem ggX8_cycles_X8_spread : GoodIn wsX8_cycles wsX8_spread := goodIn_r _ [7, 2, 8, 9, 10, 11, 12, 13, 6, 14, 15, 16, 17, 18, 19, 20, 21, 22, 23, 24, 25, 26, 27, 28, 29, 30, 31, 32, 33, 34, 35, 36, 37, 38, 47, 48, 49, 50, 51, 52, 53, 54, 55, 56, 57, 58, 59, 60, 61, 62, 63, 64, 65, 66] (by decide +kernel) (by decide +kernel)
set_option maxRecDepth 20000 in
theorem gX8_cycles_X8_spread : GoodIn wsX8_cycles (wsV RX8 127 RX8 yX8_spread wsX8_spread) := goodIn_app (goodIn_of _ (by decide +kernel)) ggX8_cycles_X8_spread
set_option maxRecDepth 20000 in
theorem ggX8_cycles_X8_isRing : GoodIn wsX8_cycles wsX8_isRing := goodIn_r _ [42, 16, 15, 43, 44, 45, 6, 46, 31, 32, 21, 22, 23, 24, 8, 25, 26, 27, 28, 29, 30, 9, 33, 47, 48, 49, 50, 51, 52, 53, 54, 55, 56, 57, 58, 59, 60, 61, 62, 63, 64, 65, 66] (by decide +kernel) (by decide +kernel)
set_option maxRecDepth 20000 in
theorem gX8_cycles_X8_isRing : GoodIn wsX8_cycles (wsV RX8 124 RX8 yX8_isRing wsX8_isRing) := goodIn_app (goodIn_of _ (by decide +kernel)) ggX8_cycles_X8_isRing
theorem dX8_cycles_0 : decode cX8_cycles 0 = .ok (.aload_n 0, 1) := by decide +kernel
theorem dX8_cycles_1 : decode cX8_cycles 1 = .ok (.iconst 0, 1) := by decide +kernel
theorem dX8_cycles_2 : decode cX8_cycles 2 = .ok (.putfield 58, 3) := by decide +kernel
theorem dX8_cycles_5 : decode cX8_cycles 5 = .ok (.aload_n 0, 1) := by decide +kernel
theorem dX8_cycles_6 : decode cX8_cycles 6 = .ok (.invokevirtual 127, 3) := by decide +kernel
theorem dX8_cycles_9 : decode cX8_cycles 9 = .ok (.istore_n 1, 1) := by decide +kernel
theorem dX8_cycles_10 : decode cX8_cycles 10 = .ok (.iconst 0, 1) := by decide +kernel
theorem dX8_cycles_11 : decode cX8_cycles 11 = .ok (.istore_n 2, 1) := by decide +kernel
theorem dX8_cycles_12 : decode cX8_cycles 12 = .ok (.iconst 1, 1) := by decide +kernel
theorem dX8_cycles_13 : decode cX8_cycles 13 = .ok (.istore_n 3, 1) := by decide +kernel
theorem dX8_cycles_14 : decode cX8_cycles 14 = .ok (.iload_n 3, 1) := by decide +kernel
theorem dX8_cycles_15 : decode cX8_cycles 15 = .ok (.iload_n 1, 1) := by decide +kernel
theorem dX8_cycles_16 : decode cX8_cycles 16 = .ok (.if_icmp .ge 30, 3) := by decide +kernel
theorem dX8_cycles_19 : decode cX8_cycles 19 = .ok (.iload_n 2, 1) := by decide +kernel
theorem dX8_cycles_20 : decode cX8_cycles 20 = .ok (.aload_n 0, 1) := by decide +kernel
theorem dX8_cycles_21 : decode cX8_cycles 21 = .ok (.aload_n 0, 1) := by decide +kernel
theorem dX8_cycles_22 : decode cX8_cycles 22 = .ok (.getfield 39, 3) := by decide +kernel
theorem dX8_cycles_25 : decode cX8_cycles 25 = .ok (.iload_n 3, 1) := by decide +kernel
theorem dX8_cycles_26 : decode cX8_cycles 26 = .ok (.laload, 1) := by decide +kernel
theorem dX8_cycles_27 : decode cX8_cycles 27 = .ok (.invokevirtual 124, 3) := by decide +kernel
theorem dX8_cycles_30 : decode cX8_cycles 30 = .ok (.ifCond .eq 7, 3) := by decide +kernel
theorem dX8_cycles_33 : decode cX8_cycles 33 = .ok (.iconst 1, 1) := by decide +kernel
theorem dX8_cycles_34 : decode cX8_cycles 34 = .ok (.goto 4, 3) := by decide +kernel
theorem dX8_cycles_37 : decode cX8_cycles 37 = .ok (.iconst 0, 1) := by decide +kernel
theorem dX8_cycles_38 : decode cX8_cycles 38 = .ok (.iadd, 1) := by decide +kernel
theorem dX8_cycles_39 : decode cX8_cycles 39 = .ok (.istore_n 2, 1) := by decide +kernel
theorem dX8_cycles_40 : decode cX8_cycles 40 = .ok (.iinc 3 1, 3) := by decide +kernel
theorem dX8_cycles_43 : decode cX8_cycles 43 = .ok (.goto (-29), 3) := by decide +kernel
theorem dX8_cycles_46 : decode cX8_cycles 46 = .ok (.iload_n 2, 1) := by decide +kernel
theorem dX8_cycles_47 : decode cX8_cycles 47 = .ok (.ireturn, 1) := by decide +kernel
set_option maxRecDepth 20000 in
theorem ggX8_light_X8_spread : GoodIn wsX8_light wsX8_spread := goodIn_r _ [7, 8, 9, 10, 2, 11, 12, 13, 6, 14, 15, 16, 17, 18, 19, 20, 21, 22, 23, 24, 25, 26, 27, 28, 29, 30, 31, 32, 33, 34, 35, 36, 37, 38, 39, 40, 41, 42, 43, 44, 45, 46, 47, 48, 49, 50, 51, 52, 53, 54, 55, 56, 57, 58] (by decide +kernel) (by decide +kernel)
set_option maxRecDepth 20000 in
theorem gX8_light_X8_spread : GoodIn wsX8_light (wsV RX8 127 RX8 yX8_spread wsX8_spread) := goodIn_app (goodIn_of _ (by decide +kernel)) ggX8_light_X8_spread
theorem dX8_light_0 : decode cX8_light 0 = .ok (.aload_n 0, 1) := by decide +kernel
theorem dX8_light_1 : decode cX8_light 1 = .ok (.iconst 0, 1) := by decide +kernel
theorem dX8_light_2 : decode cX8_light 2 = .ok (.putfield 58, 3) := by decide +kernel
theorem dX8_light_5 : decode cX8_light 5 = .ok (.aload_n 0, 1) := by decide +kernel
theorem dX8_light_6 : decode cX8_light 6 = .ok (.invokevirtual 127, 3) := by decide +kernel
theorem dX8_light_9 : decode cX8_light 9 = .ok (.istore_n 3, 1) := by decide +kernel
theorem dX8_light_10 : decode cX8_light 10 = .ok (.iconst 0, 1) := by decide +kernel
theorem dX8_light_11 : decode cX8_light 11 = .ok (.istore 4, 2) := by decide +kernel
theorem dX8_light_13 : decode cX8_light 13 = .ok (.iconst 0, 1) := by decide +kernel
theorem dX8_light_14 : decode cX8_light 14 = .ok (.istore 5, 2) := by decide +kernel
theorem dX8_light_16 : decode cX8_light 16 = .ok (.iload 5, 2) := by decide +kernel
theorem dX8_light_18 : decode cX8_light 18 = .ok (.iload_n 3, 1) := by decide +kernel
theorem dX8_light_19 : decode cX8_light 19 = .ok (.if_icmp .ge 31, 3) := by decide +kernel
theorem dX8_light_22 : decode cX8_light 22 = .ok (.iload 4, 2) := by decide +kernel
theorem dX8_light_24 : decode cX8_light 24 = .ok (.aload_n 0, 1) := by decide +kernel
theorem dX8_light_25 : decode cX8_light 25 = .ok (.getfield 42, 3) := by decide +kernel
theorem dX8_light_28 : decode cX8_light 28 = .ok (.iload 5, 2) := by decide +kernel
theorem dX8_light_30 : decode cX8_light 30 = .ok (.laload, 1) := by decide +kernel
theorem dX8_light_31 : decode cX8_light 31 = .ok (.lload_n 1, 1) := by decide +kernel
theorem dX8_light_32 : decode cX8_light 32 = .ok (.lcmp, 1) := by decide +kernel
theorem dX8_light_33 : decode cX8_light 33 = .ok (.ifCond .gt 7, 3) := by decide +kernel
theorem dX8_light_36 : decode cX8_light 36 = .ok (.iconst 1, 1) := by decide +kernel
theorem dX8_light_37 : decode cX8_light 37 = .ok (.goto 4, 3) := by decide +kernel
theorem dX8_light_40 : decode cX8_light 40 = .ok (.iconst 0, 1) := by decide +kernel
theorem dX8_light_41 : decode cX8_light 41 = .ok (.iadd, 1) := by decide +kernel
theorem dX8_light_42 : decode cX8_light 42 = .ok (.istore 4, 2) := by decide +kernel
theorem dX8_light_44 : decode cX8_light 44 = .ok (.iinc 5 1, 3) := by decide +kernel
theorem dX8_light_47 : decode cX8_light 47 = .ok (.goto (-31), 3) := by decide +kernel
theorem dX8_light_50 : decode cX8_light 50 = .ok (.iload 4, 2) := by decide +kernel
theorem dX8_light_52 : decode cX8_light 52 = .ok (.ireturn, 1) := by decide +kernel
set_option maxRecDepth 20000 in
theorem ggX8_add_X8_throwing : GoodIn wsX8_add wsX8_throwing := goodIn_r _ [7, 8, 9, 10, 11, 12, 13, 14, 15, 16, 17, 18, 19, 20, 21, 22, 23, 24, 25, 26, 27, 28] (by decide +kernel) (by decide +kernel)
set_option maxRecDepth 20000 in
theorem gX8_add_X8_throwing : GoodIn wsX8_add (wsV RX8 78 RX8 yX8_throwing wsX8_throwing) := goodIn_app (goodIn_of _ (by decide +kernel)) ggX8_add_X8_throwing
theorem dX8_add_0 : decode cX8_add 0 = .ok (.aload_n 0, 1) := by decide +kernel
theorem dX8_add_1 : decode cX8_add 1 = .ok (.lload_n 1, 1) := by decide +kernel
theorem dX8_add_2 : decode cX8_add 2 = .ok (.bipush 40, 2) := by decide +kernel
theorem dX8_add_4 : decode cX8_add 4 = .ok (.lushr, 1) := by decide +kernel
theorem dX8_add_5 : decode cX8_add 5 = .ok (.lconst 0, 1) := by decide +kernel
theorem dX8_add_6 : decode cX8_add 6 = .ok (.lcmp, 1) := by decide +kernel
theorem dX8_add_7 : decode cX8_add 7 = .ok (.ifCond .eq 7, 3) := by decide +kernel
theorem dX8_add_10 : decode cX8_add 10 = .ok (.iconst 1, 1) := by decide +kernel
theorem dX8_add_11 : decode cX8_add 11 = .ok (.goto 4, 3) := by decide +kernel
theorem dX8_add_14 : decode cX8_add 14 = .ok (.iconst 0, 1) := by decide +kernel
theorem dX8_add_15 : decode cX8_add 15 = .ok (.aload_n 0, 1) := by decide +kernel
theorem dX8_add_16 : decode cX8_add 16 = .ok (.getfield 143, 3) := by decide +kernel
theorem dX8_add_19 : decode cX8_add 19 = .ok (.bipush 64, 2) := by decide +kernel
theorem dX8_add_21 : decode cX8_add 21 = .ok (.if_icmp .ne 7, 3) := by decide +kernel
theorem dX8_add_24 : decode cX8_add 24 = .ok (.iconst 1, 1) := by decide +kernel
theorem dX8_add_25 : decode cX8_add 25 = .ok (.goto 4, 3) := by decide +kernel
theorem dX8_add_28 : decode cX8_add 28 = .ok (.iconst 0, 1) := by decide +kernel
theorem dX8_add_29 : decode cX8_add 29 = .ok (.invokevirtual 78, 3) := by decide +kernel
theorem dX8_add_32 : decode cX8_add 32 = .ok (.ifCond .eq 5, 3) := by decide +kernel
theorem dX8_add_35 : decode cX8_add 35 = .ok (.iconst 0, 1) := by decide +kernel
theorem dX8_add_36 : decode cX8_add 36 = .ok (.ireturn, 1) := by decide +kernel
theorem dX8_add_37 : decode cX8_add 37 = .ok (.aload_n 0, 1) := by decide +kernel
theorem dX8_add_38 : decode cX8_add 38 = .ok (.getfield 23, 3) := by decide +kernel
theorem dX8_add_41 : decode cX8_add 41 = .ok (.aload_n 0, 1) := by decide +kernel
theorem dX8_add_42 : decode cX8_add 42 = .ok (.getfield 143, 3) := by decide +kernel
theorem dX8_add_45 : decode cX8_add 45 = .ok (.lload_n 1, 1) := by decide +kernel
theorem dX8_add_46 : decode cX8_add 46 = .ok (.lastore, 1) := by decide +kernel
theorem dX8_add_47 : decode cX8_add 47 = .ok (.aload_n 0, 1) := by decide +kernel
theorem dX8_add_48 : decode cX8_add 48 = .ok (.dup, 1) := by decide +kernel
theorem dX8_add_49 : decode cX8_add 49 = .ok (.getfield 143, 3) := by decide +kernel
theorem dX8_add_52 : decode cX8_add 52 = .ok (.iconst 1, 1) := by decide +kernel
theorem dX8_add_53 : decode cX8_add 53 = .ok (.iadd, 1) := by decide +kernel
theorem dX8_add_54 : decode cX8_add 54 = .ok (.putfield 143, 3) := by decide +kernel
theorem dX8_add_57 : decode cX8_add 57 = .ok (.aload_n 0, 1) := by decide +kernel
theorem dX8_add_58 : decode cX8_add 58 = .ok (.getfield 143, 3) := by decide +kernel
theorem dX8_add_61 : decode cX8_add 61 = .ok (.ireturn, 1) := by decide +kernel
theorem dX8_clear_0 : decode cX8_clear 0 = .ok (.aload_n 0, 1) := by decide +kernel
theorem dX8_clear_1 : decode cX8_clear 1 = .ok (.iconst 0, 1) := by decide +kernel
theorem dX8_clear_2 : decode cX8_clear 2 = .ok (.putfield 58, 3) := by decide +kernel
theorem dX8_clear_5 : decode cX8_clear 5 = .ok (.aload_n 0, 1) := by decide +kernel
theorem dX8_clear_6 : decode cX8_clear 6 = .ok (.getfield 143, 3) := by decide +kernel
theorem dX8_clear_9 : decode cX8_clear 9 = .ok (.istore_n 1, 1) := by decide +kernel
theorem dX8_clear_10 : decode cX8_clear 10 = .ok (.aload_n 0, 1) := by decide +kernel
theorem dX8_clear_11 : decode cX8_clear 11 = .ok (.iconst 0, 1) := by decide +kernel
theorem dX8_clear_12 : decode cX8_clear 12 = .ok (.putfield 143, 3) := by decide +kernel
theorem dX8_clear_15 : decode cX8_clear 15 = .ok (.iload_n 1, 1) := by decide +kernel
theorem dX8_clear_16 : decode cX8_clear 16 = .ok (.ireturn, 1) := by decide +kernel
set_option maxRecDepth 20000 in
theorem ggX8_takeList_X8_take : GoodIn wsX8_takeList wsX8_take := goodIn_r _ [8, 1, 9, 10, 11, 12, 7, 13, 14, 15, 16, 17, 18, 19, 20, 21, 22, 23, 24, 25, 26, 27, 28, 29, 30, 31, 32, 33] (by decide +kernel) (by decide +kernel)
set_option maxRecDepth 20000 in
theorem gX8_takeList_X8_take : GoodIn wsX8_takeList (wsV RX8 136 RX8 yX8_take wsX8_take) := goodIn_app (goodIn_of _ (by decide +kernel)) ggX8_takeList_X8_take
theorem dX8_takeList_0 : decode cX8_takeList 0 = .ok (.aload_n 0, 1) := by decide +kernel
theorem dX8_takeList_1 : decode cX8_takeList 1 = .ok (.iconst 0, 1) := by decide +kernel
theorem dX8_takeList_2 : decode cX8_takeList 2 = .ok (.putfield 130, 3) := by decide +kernel
theorem dX8_takeList_5 : decode cX8_takeList 5 = .ok (.iconst 0, 1) := by decide +kernel
theorem dX8_takeList_6 : decode cX8_takeList 6 = .ok (.istore_n 1, 1) := by decide +kernel
theorem dX8_takeList_7 : decode cX8_takeList 7 = .ok (.iload_n 1, 1) := by decide +kernel
theorem dX8_takeList_8 : decode cX8_takeList 8 = .ok (.aload_n 0, 1) := by decide +kernel
theorem dX8_takeList_9 : decode cX8_takeList 9 = .ok (.getfield 143, 3) := by decide +kernel
theorem dX8_takeList_12 : decode cX8_takeList 12 = .ok (.if_icmp .ge 20, 3) := by decide +kernel
theorem dX8_takeList_15 : decode cX8_takeList 15 = .ok (.aload_n 0, 1) := by decide +kernel
theorem dX8_takeList_16 : decode cX8_takeList 16 = .ok (.aload_n 0, 1) := by decide +kernel
theorem dX8_takeList_17 : decode cX8_takeList 17 = .ok (.getfield 23, 3) := by decide +kernel
theorem dX8_takeList_20 : decode cX8_takeList 20 = .ok (.iload_n 1, 1) := by decide +kernel
theorem dX8_takeList_21 : decode cX8_takeList 21 = .ok (.laload, 1) := by decide +kernel
theorem dX8_takeList_22 : decode cX8_takeList 22 = .ok (.invokevirtual 136, 3) := by decide +kernel
theorem dX8_takeList_25 : decode cX8_takeList 25 = .ok (.istore_n 2, 1) := by decide +kernel
theorem dX8_takeList_26 : decode cX8_takeList 26 = .ok (.iinc 1 1, 3) := by decide +kernel
theorem dX8_takeList_29 : decode cX8_takeList 29 = .ok (.goto (-22), 3) := by decide +kernel
theorem dX8_takeList_32 : decode cX8_takeList 32 = .ok (.return_, 1) := by decide +kernel
set_option maxRecDepth 20000 in
theorem ggX8_spans_X8_throwing : GoodIn wsX8_spans wsX8_throwing := goodIn_r _ [5, 6, 23, 24, 25, 26, 27, 28, 29, 30, 31, 32, 33, 34, 35, 36, 37, 38, 39, 40, 41, 42] (by decide +kernel) (by decide +kernel)
set_option maxRecDepth 20000 in
theorem gX8_spans_X8_throwing : GoodIn wsX8_spans (wsV RX8 78 RX8 yX8_throwing wsX8_throwing) := goodIn_app (goodIn_of _ (by decide +kernel)) ggX8_spans_X8_throwing
set_option maxRecDepth 20000 in
theorem ggX8_spans_X8_takeList : GoodIn wsX8_spans wsX8_takeList := goodIn_r _ [10, 11, 12, 13, 14, 15, 16, 4, 17, 18, 19, 20, 21, 22, 23, 24, 25, 26, 27, 28, 29, 30, 31, 32, 33, 34, 35, 36, 37, 38, 39, 40, 41, 42] (by decide +kernel) (by decide +kernel)
set_option maxRecDepth 20000 in
theorem gX8_spans_X8_takeList : GoodIn wsX8_spans (wsV RX8 146 RX8 yX8_takeList wsX8_takeList) := goodIn_app (goodIn_of _ (by decide +kernel)) ggX8_spans_X8_takeList
set_option maxRecDepth 20000 in
theorem ggX8_spans_X8_rest : GoodIn wsX8_spans wsX8_rest := goodIn_r _ [22, 11, 18, 23, 24, 25, 26, 27, 28, 29, 30, 31, 32, 33, 34, 35, 36, 37, 38, 39, 40, 41, 42] (by decide +kernel) (by decide +kernel)
set_option maxRecDepth 20000 in
theorem gX8_spans_X8_rest : GoodIn wsX8_spans (wsV RX8 133 RX8 yX8_rest wsX8_rest) := goodIn_app (goodIn_of _ (by decide +kernel)) ggX8_spans_X8_rest
theorem dX8_spans_0 : decode cX8_spans 0 = .ok (.aload_n 0, 1) := by decide +kernel
theorem dX8_spans_1 : decode cX8_spans 1 = .ok (.lload_n 1, 1) := by decide +kernel
theorem dX8_spans_2 : decode cX8_spans 2 = .ok (.bipush 40, 2) := by decide +kernel
theorem dX8_spans_4 : decode cX8_spans 4 = .ok (.lushr, 1) := by decide +kernel
theorem dX8_spans_5 : decode cX8_spans 5 = .ok (.lconst 0, 1) := by decide +kernel
theorem dX8_spans_6 : decode cX8_spans 6 = .ok (.lcmp, 1) := by decide +kernel
theorem dX8_spans_7 : decode cX8_spans 7 = .ok (.ifCond .eq 7, 3) := by decide +kernel
theorem dX8_spans_10 : decode cX8_spans 10 = .ok (.iconst 1, 1) := by decide +kernel
theorem dX8_spans_11 : decode cX8_spans 11 = .ok (.goto 4, 3) := by decide +kernel
theorem dX8_spans_14 : decode cX8_spans 14 = .ok (.iconst 0, 1) := by decide +kernel
theorem dX8_spans_15 : decode cX8_spans 15 = .ok (.iconst 0, 1) := by decide +kernel
theorem dX8_spans_16 : decode cX8_spans 16 = .ok (.invokevirtual 78, 3) := by decide +kernel
theorem dX8_spans_19 : decode cX8_spans 19 = .ok (.ifCond .eq 5, 3) := by decide +kernel
theorem dX8_spans_22 : decode cX8_spans 22 = .ok (.iconst 0, 1) := by decide +kernel
theorem dX8_spans_23 : decode cX8_spans 23 = .ok (.ireturn, 1) := by decide +kernel
theorem dX8_spans_24 : decode cX8_spans 24 = .ok (.aload_n 0, 1) := by decide +kernel
theorem dX8_spans_25 : decode cX8_spans 25 = .ok (.invokevirtual 146, 3) := by decide +kernel
theorem dX8_spans_28 : decode cX8_spans 28 = .ok (.aload_n 0, 1) := by decide +kernel
theorem dX8_spans_29 : decode cX8_spans 29 = .ok (.lload_n 1, 1) := by decide +kernel
theorem dX8_spans_30 : decode cX8_spans 30 = .ok (.invokevirtual 133, 3) := by decide +kernel
theorem dX8_spans_33 : decode cX8_spans 33 = .ok (.lconst 0, 1) := by decide +kernel
theorem dX8_spans_34 : decode cX8_spans 34 = .ok (.lcmp, 1) := by decide +kernel
theorem dX8_spans_35 : decode cX8_spans 35 = .ok (.ifCond .ne 7, 3) := by decide +kernel
theorem dX8_spans_38 : decode cX8_spans 38 = .ok (.iconst 1, 1) := by decide +kernel
theorem dX8_spans_39 : decode cX8_spans 39 = .ok (.goto 4, 3) := by decide +kernel
theorem dX8_spans_42 : decode cX8_spans 42 = .ok (.iconst 0, 1) := by decide +kernel
theorem dX8_spans_43 : decode cX8_spans 43 = .ok (.ireturn, 1) := by decide +kernel
set_option maxRecDepth 20000 in
theorem ggX8_alone_X8_groups : GoodIn wsX8_alone wsX8_groups := goodIn_r _ [7, 2, 1, 8, 9, 10, 6, 11, 12, 13, 14, 15, 16, 17, 18, 19, 20, 21, 22, 23, 24, 25, 26, 27, 28, 29, 30, 31, 32, 33, 34, 35, 36, 37, 38, 39, 40, 41, 42] (by decide +kernel) (by decide +kernel)
set_option maxRecDepth 20000 in
theorem gX8_alone_X8_groups : GoodIn wsX8_alone (wsV RX8 74 RX8 yX8_groups wsX8_groups) := goodIn_app (goodIn_of _ (by decide +kernel)) ggX8_alone_X8_groups
set_option maxRecDepth 20000 in
theorem ggX8_alone_X8_beginGroups : GoodIn wsX8_alone wsX8_beginGroups := goodIn_r _ [11, 12, 13, 14, 23, 24, 25, 26, 27, 28, 29, 30, 31, 32, 33, 34, 35, 36, 37, 38, 39, 40, 41, 42] (by decide +kernel) (by decide +kernel)
set_option maxRecDepth 20000 in
theorem gX8_alone_X8_beginGroups : GoodIn wsX8_alone (wsV RX8 67 RX8 yX8_beginGroups wsX8_beginGroups) := goodIn_app (goodIn_of _ (by decide +kernel)) ggX8_alone_X8_beginGroups
set_option maxRecDepth 20000 in
theorem ggX8_alone_X8_joins : GoodIn wsX8_alone wsX8_joins := goodIn_r _ [18, 19, 20, 13, 21, 12, 14, 22, 2, 23, 24, 25, 26, 27, 28, 29, 30, 31, 32, 33, 34, 35, 36, 37, 38, 39, 40, 41, 42] (by decide +kernel) (by decide +kernel)
set_option maxRecDepth 20000 in
theorem gX8_alone_X8_joins : GoodIn wsX8_alone (wsV RX8 70 RX8 yX8_joins wsX8_joins) := goodIn_app (goodIn_of _ (by decide +kernel)) ggX8_alone_X8_joins
theorem dX8_alone_0 : decode cX8_alone 0 = .ok (.iconst 0, 1) := by decide +kernel
theorem dX8_alone_1 : decode cX8_alone 1 = .ok (.istore_n 1, 1) := by decide +kernel
theorem dX8_alone_2 : decode cX8_alone 2 = .ok (.aload_n 0, 1) := by decide +kernel
theorem dX8_alone_3 : decode cX8_alone 3 = .ok (.invokevirtual 74, 3) := by decide +kernel
theorem dX8_alone_6 : decode cX8_alone 6 = .ok (.istore_n 2, 1) := by decide +kernel
theorem dX8_alone_7 : decode cX8_alone 7 = .ok (.iconst 0, 1) := by decide +kernel
theorem dX8_alone_8 : decode cX8_alone 8 = .ok (.istore_n 3, 1) := by decide +kernel
theorem dX8_alone_9 : decode cX8_alone 9 = .ok (.iload_n 3, 1) := by decide +kernel
theorem dX8_alone_10 : decode cX8_alone 10 = .ok (.aload_n 0, 1) := by decide +kernel
theorem dX8_alone_11 : decode cX8_alone 11 = .ok (.getfield 61, 3) := by decide +kernel
theorem dX8_alone_14 : decode cX8_alone 14 = .ok (.if_icmp .ge 76, 3) := by decide +kernel
theorem dX8_alone_17 : decode cX8_alone 17 = .ok (.aload_n 0, 1) := by decide +kernel
theorem dX8_alone_18 : decode cX8_alone 18 = .ok (.invokevirtual 67, 3) := by decide +kernel
theorem dX8_alone_21 : decode cX8_alone 21 = .ok (.aload_n 0, 1) := by decide +kernel
theorem dX8_alone_22 : decode cX8_alone 22 = .ok (.getfield 7, 3) := by decide +kernel
theorem dX8_alone_25 : decode cX8_alone 25 = .ok (.istore 4, 2) := by decide +kernel
theorem dX8_alone_27 : decode cX8_alone 27 = .ok (.iconst 0, 1) := by decide +kernel
theorem dX8_alone_28 : decode cX8_alone 28 = .ok (.istore 5, 2) := by decide +kernel
theorem dX8_alone_30 : decode cX8_alone 30 = .ok (.iload 5, 2) := by decide +kernel
theorem dX8_alone_32 : decode cX8_alone 32 = .ok (.aload_n 0, 1) := by decide +kernel
theorem dX8_alone_33 : decode cX8_alone 33 = .ok (.getfield 61, 3) := by decide +kernel
theorem dX8_alone_36 : decode cX8_alone 36 = .ok (.if_icmp .ge 34, 3) := by decide +kernel
theorem dX8_alone_39 : decode cX8_alone 39 = .ok (.iload 5, 2) := by decide +kernel
theorem dX8_alone_41 : decode cX8_alone 41 = .ok (.iload_n 3, 1) := by decide +kernel
theorem dX8_alone_42 : decode cX8_alone 42 = .ok (.if_icmp .eq 22, 3) := by decide +kernel
theorem dX8_alone_45 : decode cX8_alone 45 = .ok (.iload 4, 2) := by decide +kernel
theorem dX8_alone_47 : decode cX8_alone 47 = .ok (.aload_n 0, 1) := by decide +kernel
theorem dX8_alone_48 : decode cX8_alone 48 = .ok (.iload 5, 2) := by decide +kernel
theorem dX8_alone_50 : decode cX8_alone 50 = .ok (.invokevirtual 70, 3) := by decide +kernel
theorem dX8_alone_53 : decode cX8_alone 53 = .ok (.ifCond .eq 7, 3) := by decide +kernel
theorem dX8_alone_56 : decode cX8_alone 56 = .ok (.iconst 1, 1) := by decide +kernel
theorem dX8_alone_57 : decode cX8_alone 57 = .ok (.goto 4, 3) := by decide +kernel
theorem dX8_alone_60 : decode cX8_alone 60 = .ok (.iconst 0, 1) := by decide +kernel
theorem dX8_alone_61 : decode cX8_alone 61 = .ok (.isub, 1) := by decide +kernel
theorem dX8_alone_62 : decode cX8_alone 62 = .ok (.istore 4, 2) := by decide +kernel
theorem dX8_alone_64 : decode cX8_alone 64 = .ok (.iinc 5 1, 3) := by decide +kernel
theorem dX8_alone_67 : decode cX8_alone 67 = .ok (.goto (-37), 3) := by decide +kernel
theorem dX8_alone_70 : decode cX8_alone 70 = .ok (.iload_n 1, 1) := by decide +kernel
theorem dX8_alone_71 : decode cX8_alone 71 = .ok (.iload 4, 2) := by decide +kernel
theorem dX8_alone_73 : decode cX8_alone 73 = .ok (.iload_n 2, 1) := by decide +kernel
theorem dX8_alone_74 : decode cX8_alone 74 = .ok (.if_icmp .le 7, 3) := by decide +kernel
theorem dX8_alone_77 : decode cX8_alone 77 = .ok (.iconst 1, 1) := by decide +kernel
theorem dX8_alone_78 : decode cX8_alone 78 = .ok (.goto 4, 3) := by decide +kernel
theorem dX8_alone_81 : decode cX8_alone 81 = .ok (.iconst 0, 1) := by decide +kernel
theorem dX8_alone_82 : decode cX8_alone 82 = .ok (.iadd, 1) := by decide +kernel
theorem dX8_alone_83 : decode cX8_alone 83 = .ok (.istore_n 1, 1) := by decide +kernel
theorem dX8_alone_84 : decode cX8_alone 84 = .ok (.iinc 3 1, 3) := by decide +kernel
theorem dX8_alone_87 : decode cX8_alone 87 = .ok (.goto (-78), 3) := by decide +kernel
theorem dX8_alone_90 : decode cX8_alone 90 = .ok (.iload_n 1, 1) := by decide +kernel
theorem dX8_alone_91 : decode cX8_alone 91 = .ok (.ireturn, 1) := by decide +kernel
set_option maxRecDepth 20000 in
theorem ggX8_areEven_X8_groups : GoodIn wsX8_areEven wsX8_groups := goodIn_r _ [8, 9, 2, 10, 11, 12, 7, 13, 1, 14, 15, 16, 17, 18, 19, 20, 21, 3, 22, 23, 24, 25, 26, 27, 28, 29, 30, 31, 32, 33, 34, 35, 36, 37, 38, 39, 40, 41, 42] (by decide +kernel) (by decide +kernel)
set_option maxRecDepth 20000 in
theorem gX8_areEven_X8_groups : GoodIn wsX8_areEven (wsV RX8 74 RX8 yX8_groups wsX8_groups) := goodIn_app (goodIn_of _ (by decide +kernel)) ggX8_areEven_X8_groups
theorem dX8_areEven_0 : decode cX8_areEven 0 = .ok (.aload_n 0, 1) := by decide +kernel
theorem dX8_areEven_1 : decode cX8_areEven 1 = .ok (.invokevirtual 74, 3) := by decide +kernel
theorem dX8_areEven_4 : decode cX8_areEven 4 = .ok (.istore_n 1, 1) := by decide +kernel
theorem dX8_areEven_5 : decode cX8_areEven 5 = .ok (.iload_n 1, 1) := by decide +kernel
theorem dX8_areEven_6 : decode cX8_areEven 6 = .ok (.ifCond .le 7, 3) := by decide +kernel
theorem dX8_areEven_9 : decode cX8_areEven 9 = .ok (.iconst 1, 1) := by decide +kernel
theorem dX8_areEven_10 : decode cX8_areEven 10 = .ok (.goto 4, 3) := by decide +kernel
theorem dX8_areEven_13 : decode cX8_areEven 13 = .ok (.iconst 0, 1) := by decide +kernel
theorem dX8_areEven_14 : decode cX8_areEven 14 = .ok (.istore_n 2, 1) := by decide +kernel
theorem dX8_areEven_15 : decode cX8_areEven 15 = .ok (.iconst 0, 1) := by decide +kernel
theorem dX8_areEven_16 : decode cX8_areEven 16 = .ok (.istore_n 3, 1) := by decide +kernel
theorem dX8_areEven_17 : decode cX8_areEven 17 = .ok (.iload_n 3, 1) := by decide +kernel
theorem dX8_areEven_18 : decode cX8_areEven 18 = .ok (.aload_n 0, 1) := by decide +kernel
theorem dX8_areEven_19 : decode cX8_areEven 19 = .ok (.getfield 64, 3) := by decide +kernel
theorem dX8_areEven_22 : decode cX8_areEven 22 = .ok (.if_icmp .ge 64, 3) := by decide +kernel
theorem dX8_areEven_25 : decode cX8_areEven 25 = .ok (.iconst 0, 1) := by decide +kernel
theorem dX8_areEven_26 : decode cX8_areEven 26 = .ok (.istore 4, 2) := by decide +kernel
theorem dX8_areEven_28 : decode cX8_areEven 28 = .ok (.iconst 0, 1) := by decide +kernel
theorem dX8_areEven_29 : decode cX8_areEven 29 = .ok (.istore 5, 2) := by decide +kernel
theorem dX8_areEven_31 : decode cX8_areEven 31 = .ok (.iload 5, 2) := by decide +kernel
theorem dX8_areEven_33 : decode cX8_areEven 33 = .ok (.aload_n 0, 1) := by decide +kernel
theorem dX8_areEven_34 : decode cX8_areEven 34 = .ok (.getfield 61, 3) := by decide +kernel
theorem dX8_areEven_37 : decode cX8_areEven 37 = .ok (.if_icmp .ge 26, 3) := by decide +kernel
theorem dX8_areEven_40 : decode cX8_areEven 40 = .ok (.iload 4, 2) := by decide +kernel
theorem dX8_areEven_42 : decode cX8_areEven 42 = .ok (.aload_n 0, 1) := by decide +kernel
theorem dX8_areEven_43 : decode cX8_areEven 43 = .ok (.getfield 33, 3) := by decide +kernel
theorem dX8_areEven_46 : decode cX8_areEven 46 = .ok (.iload_n 3, 1) := by decide +kernel
theorem dX8_areEven_47 : decode cX8_areEven 47 = .ok (.laload, 1) := by decide +kernel
theorem dX8_areEven_48 : decode cX8_areEven 48 = .ok (.iload 5, 2) := by decide +kernel
theorem dX8_areEven_50 : decode cX8_areEven 50 = .ok (.lshr, 1) := by decide +kernel
theorem dX8_areEven_51 : decode cX8_areEven 51 = .ok (.lconst 1, 1) := by decide +kernel
theorem dX8_areEven_52 : decode cX8_areEven 52 = .ok (.land, 1) := by decide +kernel
theorem dX8_areEven_53 : decode cX8_areEven 53 = .ok (.l2i, 1) := by decide +kernel
theorem dX8_areEven_54 : decode cX8_areEven 54 = .ok (.iadd, 1) := by decide +kernel
theorem dX8_areEven_55 : decode cX8_areEven 55 = .ok (.istore 4, 2) := by decide +kernel
theorem dX8_areEven_57 : decode cX8_areEven 57 = .ok (.iinc 5 1, 3) := by decide +kernel
theorem dX8_areEven_60 : decode cX8_areEven 60 = .ok (.goto (-29), 3) := by decide +kernel
theorem dX8_areEven_63 : decode cX8_areEven 63 = .ok (.iload_n 2, 1) := by decide +kernel
theorem dX8_areEven_64 : decode cX8_areEven 64 = .ok (.ifCond .eq 14, 3) := by decide +kernel
theorem dX8_areEven_67 : decode cX8_areEven 67 = .ok (.iload 4, 2) := by decide +kernel
theorem dX8_areEven_69 : decode cX8_areEven 69 = .ok (.iconst 2, 1) := by decide +kernel
theorem dX8_areEven_70 : decode cX8_areEven 70 = .ok (.irem, 1) := by decide +kernel
theorem dX8_areEven_71 : decode cX8_areEven 71 = .ok (.ifCond .ne 7, 3) := by decide +kernel
theorem dX8_areEven_74 : decode cX8_areEven 74 = .ok (.iconst 1, 1) := by decide +kernel
theorem dX8_areEven_75 : decode cX8_areEven 75 = .ok (.goto 4, 3) := by decide +kernel
theorem dX8_areEven_78 : decode cX8_areEven 78 = .ok (.iconst 0, 1) := by decide +kernel
theorem dX8_areEven_79 : decode cX8_areEven 79 = .ok (.istore_n 2, 1) := by decide +kernel
theorem dX8_areEven_80 : decode cX8_areEven 80 = .ok (.iinc 3 1, 3) := by decide +kernel
theorem dX8_areEven_83 : decode cX8_areEven 83 = .ok (.goto (-66), 3) := by decide +kernel
theorem dX8_areEven_86 : decode cX8_areEven 86 = .ok (.iload_n 2, 1) := by decide +kernel
theorem dX8_areEven_87 : decode cX8_areEven 87 = .ok (.ireturn, 1) := by decide +kernel
set_option maxRecDepth 20000 in
theorem ggX8_parting_X8_groups : GoodIn wsX8_parting wsX8_groups := goodIn_r _ [9, 1, 2, 10, 11, 12, 8, 13, 14, 15, 16, 17, 18, 19, 20, 3, 4, 21, 22, 23, 24, 25, 26, 27, 28, 29, 30, 31, 32, 33, 34, 35, 36, 37, 38, 39, 40, 41, 42] (by decide +kernel) (by decide +kernel)
set_option maxRecDepth 20000 in
theorem gX8_parting_X8_groups : GoodIn wsX8_parting (wsV RX8 74 RX8 yX8_groups wsX8_groups) := goodIn_app (goodIn_of _ (by decide +kernel)) ggX8_parting_X8_groups
set_option maxRecDepth 20000 in
theorem ggX8_parting_X8_beginGroups : GoodIn wsX8_parting wsX8_beginGroups := goodIn_r _ [13, 14, 15, 16, 23, 24, 25, 26, 27, 28, 29, 30, 31, 32, 33, 34, 35, 36, 37, 38, 39, 40, 41, 42] (by decide +kernel) (by decide +kernel)
set_option maxRecDepth 20000 in
theorem gX8_parting_X8_beginGroups : GoodIn wsX8_parting (wsV RX8 67 RX8 yX8_beginGroups wsX8_beginGroups) := goodIn_app (goodIn_of _ (by decide +kernel)) ggX8_parting_X8_beginGroups
set_option maxRecDepth 20000 in
theorem ggX8_parting_X8_joins : GoodIn wsX8_parting wsX8_joins := goodIn_r _ [20, 3, 4, 15, 21, 14, 16, 22, 1, 23, 24, 25, 26, 27, 28, 29, 30, 31, 32, 33, 34, 35, 36, 37, 38, 39, 40, 41, 42] (by decide +kernel) (by decide +kernel)
set_option maxRecDepth 20000 in
theorem gX8_parting_X8_joins : GoodIn wsX8_parting (wsV RX8 70 RX8 yX8_joins wsX8_joins) := goodIn_app (goodIn_of _ (by decide +kernel)) ggX8_parting_X8_joins
theorem dX8_parting_0 : decode cX8_parting 0 = .ok (.iconst 0, 1) := by decide +kernel
theorem dX8_parting_1 : decode cX8_parting 1 = .ok (.istore_n 1, 1) := by decide +kernel
theorem dX8_parting_2 : decode cX8_parting 2 = .ok (.aload_n 0, 1) := by decide +kernel
theorem dX8_parting_3 : decode cX8_parting 3 = .ok (.invokevirtual 74, 3) := by decide +kernel
theorem dX8_parting_6 : decode cX8_parting 6 = .ok (.istore_n 2, 1) := by decide +kernel
theorem dX8_parting_7 : decode cX8_parting 7 = .ok (.iconst 0, 1) := by decide +kernel
theorem dX8_parting_8 : decode cX8_parting 8 = .ok (.istore_n 3, 1) := by decide +kernel
theorem dX8_parting_9 : decode cX8_parting 9 = .ok (.iload_n 3, 1) := by decide +kernel
theorem dX8_parting_10 : decode cX8_parting 10 = .ok (.aload_n 0, 1) := by decide +kernel
theorem dX8_parting_11 : decode cX8_parting 11 = .ok (.getfield 7, 3) := by decide +kernel
theorem dX8_parting_14 : decode cX8_parting 14 = .ok (.if_icmp .ge 94, 3) := by decide +kernel
theorem dX8_parting_17 : decode cX8_parting 17 = .ok (.aload_n 0, 1) := by decide +kernel
theorem dX8_parting_18 : decode cX8_parting 18 = .ok (.invokevirtual 67, 3) := by decide +kernel
theorem dX8_parting_21 : decode cX8_parting 21 = .ok (.aload_n 0, 1) := by decide +kernel
theorem dX8_parting_22 : decode cX8_parting 22 = .ok (.getfield 7, 3) := by decide +kernel
theorem dX8_parting_25 : decode cX8_parting 25 = .ok (.iconst 1, 1) := by decide +kernel
theorem dX8_parting_26 : decode cX8_parting 26 = .ok (.isub, 1) := by decide +kernel
theorem dX8_parting_27 : decode cX8_parting 27 = .ok (.istore 4, 2) := by decide +kernel
theorem dX8_parting_29 : decode cX8_parting 29 = .ok (.iconst 0, 1) := by decide +kernel
theorem dX8_parting_30 : decode cX8_parting 30 = .ok (.istore 5, 2) := by decide +kernel
theorem dX8_parting_32 : decode cX8_parting 32 = .ok (.iload 5, 2) := by decide +kernel
theorem dX8_parting_34 : decode cX8_parting 34 = .ok (.aload_n 0, 1) := by decide +kernel
theorem dX8_parting_35 : decode cX8_parting 35 = .ok (.getfield 61, 3) := by decide +kernel
theorem dX8_parting_38 : decode cX8_parting 38 = .ok (.if_icmp .ge 50, 3) := by decide +kernel
theorem dX8_parting_41 : decode cX8_parting 41 = .ok (.aload_n 0, 1) := by decide +kernel
theorem dX8_parting_42 : decode cX8_parting 42 = .ok (.getfield 13, 3) := by decide +kernel
theorem dX8_parting_45 : decode cX8_parting 45 = .ok (.iload 5, 2) := by decide +kernel
theorem dX8_parting_47 : decode cX8_parting 47 = .ok (.iaload, 1) := by decide +kernel
theorem dX8_parting_48 : decode cX8_parting 48 = .ok (.iload_n 3, 1) := by decide +kernel
theorem dX8_parting_49 : decode cX8_parting 49 = .ok (.if_icmp .eq 33, 3) := by decide +kernel
theorem dX8_parting_52 : decode cX8_parting 52 = .ok (.aload_n 0, 1) := by decide +kernel
theorem dX8_parting_53 : decode cX8_parting 53 = .ok (.getfield 17, 3) := by decide +kernel
theorem dX8_parting_56 : decode cX8_parting 56 = .ok (.iload 5, 2) := by decide +kernel
theorem dX8_parting_58 : decode cX8_parting 58 = .ok (.iaload, 1) := by decide +kernel
theorem dX8_parting_59 : decode cX8_parting 59 = .ok (.iload_n 3, 1) := by decide +kernel
theorem dX8_parting_60 : decode cX8_parting 60 = .ok (.if_icmp .eq 22, 3) := by decide +kernel
theorem dX8_parting_63 : decode cX8_parting 63 = .ok (.iload 4, 2) := by decide +kernel
theorem dX8_parting_65 : decode cX8_parting 65 = .ok (.aload_n 0, 1) := by decide +kernel
theorem dX8_parting_66 : decode cX8_parting 66 = .ok (.iload 5, 2) := by decide +kernel
theorem dX8_parting_68 : decode cX8_parting 68 = .ok (.invokevirtual 70, 3) := by decide +kernel
theorem dX8_parting_71 : decode cX8_parting 71 = .ok (.ifCond .eq 7, 3) := by decide +kernel
theorem dX8_parting_74 : decode cX8_parting 74 = .ok (.iconst 1, 1) := by decide +kernel
theorem dX8_parting_75 : decode cX8_parting 75 = .ok (.goto 4, 3) := by decide +kernel
theorem dX8_parting_78 : decode cX8_parting 78 = .ok (.iconst 0, 1) := by decide +kernel
theorem dX8_parting_79 : decode cX8_parting 79 = .ok (.isub, 1) := by decide +kernel
theorem dX8_parting_80 : decode cX8_parting 80 = .ok (.istore 4, 2) := by decide +kernel
theorem dX8_parting_82 : decode cX8_parting 82 = .ok (.iinc 5 1, 3) := by decide +kernel
theorem dX8_parting_85 : decode cX8_parting 85 = .ok (.goto (-53), 3) := by decide +kernel
theorem dX8_parting_88 : decode cX8_parting 88 = .ok (.iload_n 1, 1) := by decide +kernel
theorem dX8_parting_89 : decode cX8_parting 89 = .ok (.iload 4, 2) := by decide +kernel
theorem dX8_parting_91 : decode cX8_parting 91 = .ok (.iload_n 2, 1) := by decide +kernel
theorem dX8_parting_92 : decode cX8_parting 92 = .ok (.if_icmp .le 7, 3) := by decide +kernel
theorem dX8_parting_95 : decode cX8_parting 95 = .ok (.iconst 1, 1) := by decide +kernel
theorem dX8_parting_96 : decode cX8_parting 96 = .ok (.goto 4, 3) := by decide +kernel
theorem dX8_parting_99 : decode cX8_parting 99 = .ok (.iconst 0, 1) := by decide +kernel
theorem dX8_parting_100 : decode cX8_parting 100 = .ok (.iadd, 1) := by decide +kernel
theorem dX8_parting_101 : decode cX8_parting 101 = .ok (.istore_n 1, 1) := by decide +kernel
theorem dX8_parting_102 : decode cX8_parting 102 = .ok (.iinc 3 1, 3) := by decide +kernel
theorem dX8_parting_105 : decode cX8_parting 105 = .ok (.goto (-96), 3) := by decide +kernel
theorem dX8_parting_108 : decode cX8_parting 108 = .ok (.iload_n 1, 1) := by decide +kernel
theorem dX8_parting_109 : decode cX8_parting 109 = .ok (.ireturn, 1) := by decide +kernel
set_option maxRecDepth 20000 in
theorem ggX8_rank_X8_takeList : GoodIn wsX8_rank wsX8_takeList := goodIn_r _ [6, 1, 7, 8, 9, 10, 11, 5, 12, 13, 14, 15, 16, 17, 18, 19, 20, 21, 22, 23, 24, 25, 26, 27, 28, 29, 30, 31, 32, 33, 34, 35, 36, 37] (by decide +kernel) (by decide +kernel)
set_option maxRecDepth 20000 in
theorem gX8_rank_X8_takeList : GoodIn wsX8_rank (wsV RX8 146 RX8 yX8_takeList wsX8_takeList) := goodIn_app (goodIn_of _ (by decide +kernel)) ggX8_rank_X8_takeList
theorem dX8_rank_0 : decode cX8_rank 0 = .ok (.aload_n 0, 1) := by decide +kernel
theorem dX8_rank_1 : decode cX8_rank 1 = .ok (.invokevirtual 146, 3) := by decide +kernel
theorem dX8_rank_4 : decode cX8_rank 4 = .ok (.aload_n 0, 1) := by decide +kernel
theorem dX8_rank_5 : decode cX8_rank 5 = .ok (.getfield 130, 3) := by decide +kernel
theorem dX8_rank_8 : decode cX8_rank 8 = .ok (.ireturn, 1) := by decide +kernel
set_option maxRecDepth 20000 in
theorem ggX8_look_X8_throwing : GoodIn wsX8_look wsX8_throwing := goodIn_r _ [8, 9, 64, 65, 66, 67, 68, 69, 70, 71, 72, 73, 74, 75, 76, 77, 78, 79, 80, 81, 82, 83] (by decide +kernel) (by decide +kernel)
set_option maxRecDepth 20000 in
theorem gX8_look_X8_throwing : GoodIn wsX8_look (wsV RX8 78 RX8 yX8_throwing wsX8_throwing) := goodIn_app (goodIn_of _ (by decide +kernel)) ggX8_look_X8_throwing
set_option maxRecDepth 20000 in
theorem ggX8_look_X8_groups : GoodIn wsX8_look wsX8_groups := goodIn_r _ [13, 1, 2, 14, 15, 16, 7, 17, 18, 19, 20, 21, 22, 23, 24, 25, 26, 27, 28, 64, 65, 66, 67, 68, 69, 70, 71, 72, 73, 74, 75, 76, 77, 78, 79, 80, 81, 82, 83] (by decide +kernel) (by decide +kernel)
set_option maxRecDepth 20000 in
theorem gX8_look_X8_groups : GoodIn wsX8_look (wsV RX8 74 RX8 yX8_groups wsX8_groups) := goodIn_app (goodIn_of _ (by decide +kernel)) ggX8_look_X8_groups
set_option maxRecDepth 20000 in
theorem ggX8_look_X8_dimension : GoodIn wsX8_look wsX8_dimension := goodIn_r _ [32, 2, 1, 10, 11, 12, 7, 13, 14, 15, 16, 17, 18, 19, 20, 21, 22, 23, 24, 25, 26, 27, 28, 64, 65, 66, 67, 68, 69, 70, 71, 72, 73, 74, 75, 76, 77, 78, 79, 80, 81, 82, 83] (by decide +kernel) (by decide +kernel)
set_option maxRecDepth 20000 in
theorem gX8_look_X8_dimension : GoodIn wsX8_look (wsV RX8 86 RX8 yX8_dimension wsX8_dimension) := goodIn_app (goodIn_of _ (by decide +kernel)) ggX8_look_X8_dimension
set_option maxRecDepth 20000 in
theorem ggX8_look_X8_alone : GoodIn wsX8_look wsX8_alone := goodIn_r _ [36, 2, 1, 10, 11, 12, 7, 13, 14, 15, 16, 17, 18, 19, 20, 21, 22, 23, 24, 25, 26, 27, 28, 64, 65, 66, 67, 68, 69, 70, 71, 72, 73, 74, 75, 76, 77, 78, 79, 80, 81, 82, 83] (by decide +kernel) (by decide +kernel)
set_option maxRecDepth 20000 in
theorem gX8_look_X8_alone : GoodIn wsX8_look (wsV RX8 149 RX8 yX8_alone wsX8_alone) := goodIn_app (goodIn_of _ (by decide +kernel)) ggX8_look_X8_alone
set_option maxRecDepth 20000 in
theorem ggX8_look_X8_areEven : GoodIn wsX8_look wsX8_areEven := goodIn_r _ [40, 18, 2, 27, 10, 11, 12, 7, 13, 1, 14, 15, 16, 17, 19, 20, 21, 22, 23, 24, 25, 26, 28, 64, 65, 66, 67, 68, 69, 70, 71, 72, 73, 74, 75, 76, 77, 78, 79, 80, 81, 82, 83] (by decide +kernel) (by decide +kernel)
set_option maxRecDepth 20000 in
theorem gX8_look_X8_areEven : GoodIn wsX8_look (wsV RX8 152 RX8 yX8_areEven wsX8_areEven) := goodIn_app (goodIn_of _ (by decide +kernel)) ggX8_look_X8_areEven
set_option maxRecDepth 20000 in
theorem ggX8_look_X8_rank : GoodIn wsX8_look wsX8_rank := goodIn_r _ [44, 45, 46, 47, 48, 7, 49, 3, 50, 51, 52, 53, 54, 55, 56, 57, 58, 59, 64, 65, 66, 67, 68, 69, 70, 71, 72, 73, 74, 75, 76, 77, 78, 79, 80, 81, 82, 83] (by decide +kernel) (by decide +kernel)
set_option maxRecDepth 20000 in
theorem gX8_look_X8_rank : GoodIn wsX8_look (wsV RX8 156 RX8 yX8_rank wsX8_rank) := goodIn_app (goodIn_of _ (by decide +kernel)) ggX8_look_X8_rank
set_option maxRecDepth 20000 in
theorem ggX8_look_X8_parting : GoodIn wsX8_look wsX8_parting := goodIn_r _ [63, 1, 2, 25, 26, 10, 11, 12, 7, 13, 14, 15, 16, 17, 18, 19, 20, 21, 22, 23, 24, 27, 28, 64, 65, 66, 67, 68, 69, 70, 71, 72, 73, 74, 75, 76, 77, 78, 79, 80, 81, 82, 83] (by decide +kernel) (by decide +kernel)
set_option maxRecDepth 20000 in
theorem gX8_look_X8_parting : GoodIn wsX8_look (wsV RX8 159 RX8 yX8_parting wsX8_parting) := goodIn_app (goodIn_of _ (by decide +kernel)) ggX8_look_X8_parting
theorem dX8_look_0 : decode cX8_look 0 = .ok (.aload_n 0, 1) := by decide +kernel
theorem dX8_look_1 : decode cX8_look 1 = .ok (.iload_n 1, 1) := by decide +kernel
theorem dX8_look_2 : decode cX8_look 2 = .ok (.ifCond .lt 9, 3) := by decide +kernel
theorem dX8_look_5 : decode cX8_look 5 = .ok (.iload_n 1, 1) := by decide +kernel
theorem dX8_look_6 : decode cX8_look 6 = .ok (.bipush 8, 2) := by decide +kernel
theorem dX8_look_8 : decode cX8_look 8 = .ok (.if_icmp .le 7, 3) := by decide +kernel
theorem dX8_look_11 : decode cX8_look 11 = .ok (.iconst 1, 1) := by decide +kernel
theorem dX8_look_12 : decode cX8_look 12 = .ok (.goto 4, 3) := by decide +kernel
theorem dX8_look_15 : decode cX8_look 15 = .ok (.iconst 0, 1) := by decide +kernel
theorem dX8_look_16 : decode cX8_look 16 = .ok (.iconst 0, 1) := by decide +kernel
theorem dX8_look_17 : decode cX8_look 17 = .ok (.invokevirtual 78, 3) := by decide +kernel
theorem dX8_look_20 : decode cX8_look 20 = .ok (.ifCond .eq 5, 3) := by decide +kernel
theorem dX8_look_23 : decode cX8_look 23 = .ok (.iconst 0, 1) := by decide +kernel
theorem dX8_look_24 : decode cX8_look 24 = .ok (.ireturn, 1) := by decide +kernel
theorem dX8_look_25 : decode cX8_look 25 = .ok (.iload_n 1, 1) := by decide +kernel
theorem dX8_look_26 : decode cX8_look 26 = .ok (.tableswitch 94 0 7 #[46, 51, 56, 61, 66, 71, 84, 89], 46) := by decide +kernel
theorem dX8_look_72 : decode cX8_look 72 = .ok (.aload_n 0, 1) := by decide +kernel
theorem dX8_look_73 : decode cX8_look 73 = .ok (.getfield 7, 3) := by decide +kernel
theorem dX8_look_76 : decode cX8_look 76 = .ok (.ireturn, 1) := by decide +kernel
theorem dX8_look_77 : decode cX8_look 77 = .ok (.aload_n 0, 1) := by decide +kernel
theorem dX8_look_78 : decode cX8_look 78 = .ok (.getfield 61, 3) := by decide +kernel
theorem dX8_look_81 : decode cX8_look 81 = .ok (.ireturn, 1) := by decide +kernel
theorem dX8_look_82 : decode cX8_look 82 = .ok (.aload_n 0, 1) := by decide +kernel
theorem dX8_look_83 : decode cX8_look 83 = .ok (.invokevirtual 74, 3) := by decide +kernel
theorem dX8_look_86 : decode cX8_look 86 = .ok (.ireturn, 1) := by decide +kernel
theorem dX8_look_87 : decode cX8_look 87 = .ok (.aload_n 0, 1) := by decide +kernel
theorem dX8_look_88 : decode cX8_look 88 = .ok (.invokevirtual 86, 3) := by decide +kernel
theorem dX8_look_91 : decode cX8_look 91 = .ok (.ireturn, 1) := by decide +kernel
theorem dX8_look_92 : decode cX8_look 92 = .ok (.aload_n 0, 1) := by decide +kernel
theorem dX8_look_93 : decode cX8_look 93 = .ok (.invokevirtual 149, 3) := by decide +kernel
theorem dX8_look_96 : decode cX8_look 96 = .ok (.ireturn, 1) := by decide +kernel
theorem dX8_look_97 : decode cX8_look 97 = .ok (.aload_n 0, 1) := by decide +kernel
theorem dX8_look_98 : decode cX8_look 98 = .ok (.invokevirtual 152, 3) := by decide +kernel
theorem dX8_look_101 : decode cX8_look 101 = .ok (.ifCond .eq 7, 3) := by decide +kernel
theorem dX8_look_104 : decode cX8_look 104 = .ok (.iconst 1, 1) := by decide +kernel
theorem dX8_look_105 : decode cX8_look 105 = .ok (.goto 4, 3) := by decide +kernel
theorem dX8_look_108 : decode cX8_look 108 = .ok (.iconst 0, 1) := by decide +kernel
theorem dX8_look_109 : decode cX8_look 109 = .ok (.ireturn, 1) := by decide +kernel
theorem dX8_look_110 : decode cX8_look 110 = .ok (.aload_n 0, 1) := by decide +kernel
theorem dX8_look_111 : decode cX8_look 111 = .ok (.getfield 143, 3) := by decide +kernel
theorem dX8_look_114 : decode cX8_look 114 = .ok (.ireturn, 1) := by decide +kernel
theorem dX8_look_115 : decode cX8_look 115 = .ok (.aload_n 0, 1) := by decide +kernel
theorem dX8_look_116 : decode cX8_look 116 = .ok (.invokevirtual 156, 3) := by decide +kernel
theorem dX8_look_119 : decode cX8_look 119 = .ok (.ireturn, 1) := by decide +kernel
theorem dX8_look_120 : decode cX8_look 120 = .ok (.aload_n 0, 1) := by decide +kernel
theorem dX8_look_121 : decode cX8_look 121 = .ok (.invokevirtual 159, 3) := by decide +kernel
theorem dX8_look_124 : decode cX8_look 124 = .ok (.ireturn, 1) := by decide +kernel
abbrev vwCl : List vw_C := [(RX0, TX0, 1), (RX1, TX1, 1), (RX2, TX2, 5), (RX3, TX3, 4), (RX4, TX4, 6), (RX5, TX5, 3), (RX6, TX6, 2), (RX7, TX7, 8), (RX8, TX8, 20)]
end
section
/-! rows on bits, shifts and unsigned numbers, to paste: each family out of a closed proof of our own, whole with what it rests on; each by itself clean at Lean in its own claim (generation 39, form 5). Take a family whole -/
/-! ===== Int32 by its bits: bt x i ===== -/
def bt (x : Int32) (i : Nat) : Bool := x.toBitVec.getLsbD i
theorem b_ext {x y : Int32} (h : ∀ i, i < 32 → bt x i = bt y i) : x = y := Int32.toBitVec_inj.mp (BitVec.eq_of_getLsbD_eq (fun i hi => h i hi))
theorem b_or (x y : Int32) (i : Nat) : bt (x ||| y) i = (bt x i || bt y i) := by unfold bt; rw [Int32.toBitVec_or, BitVec.getLsbD_or]
theorem b_and (x y : Int32) (i : Nat) : bt (x &&& y) i = (bt x i && bt y i) := by unfold bt; rw [Int32.toBitVec_and, BitVec.getLsbD_and]
theorem b_xor (x y : Int32) (i : Nat) : bt (x ^^^ y) i = (bt x i ^^ bt y i) := by unfold bt; rw [Int32.toBitVec_xor, BitVec.getLsbD_xor]
theorem b_big {x : Int32} {i : Nat} (h : 32 ≤ i) : bt x i = false := BitVec.getLsbD_of_ge _ _ h
theorem b_255 (i : Nat) : bt 255 i = decide (i < 8) := by
  rcases Nat.lt_or_ge i 32 with h | h
  · exact (by decide +kernel : ∀ i, i < 32 → bt 255 i = decide (i < 8)) i h
  · rw [b_big h, decide_eq_false (by omega)]
theorem b_65535 (i : Nat) : bt 65535 i = decide (i < 16) := by
  rcases Nat.lt_or_ge i 32 with h | h
  · exact (by decide +kernel : ∀ i, i < 32 → bt 65535 i = decide (i < 16)) i h
  · rw [b_big h, decide_eq_false (by omega)]
theorem b_m1 : ∀ i, i < 32 → bt (-1) i = true := by decide +kernel
theorem b_0 (i : Nat) : bt 0 i = false := BitVec.getLsbD_zero
theorem s_l : ∀ n, n < 32 → ((nI n &&& 31).toBitVec.smod 32).toNat = n := by decide +kernel
theorem s_u : ∀ n, n < 32 → (((nI n).toUInt32 &&& Int32.toUInt32 31).toBitVec % 32).toNat = n := by decide +kernel
theorem b_shl (n : Nat) (hn : n < 32) (x : Int32) {i : Nat} (hi : i < 32) : bt (x <<< (nI n &&& 31)) i = (decide (n ≤ i) && bt x (i - n)) := by
  unfold bt
  rw [Int32.toBitVec_shiftLeft]
  show (x.toBitVec <<< ((nI n &&& 31).toBitVec.smod 32).toNat).getLsbD i = _
  rw [s_l n hn, BitVec.getLsbD_shiftLeft]
  rcases Nat.lt_or_ge i n with h | h
  · simp [h, Nat.not_le.mpr h]
  · simp [hi, h, Nat.not_lt.mpr h]
theorem b_ushr (n : Nat) (hn : n < 32) (x : Int32) (i : Nat) : bt ((x.toUInt32 >>> ((nI n).toUInt32 &&& Int32.toUInt32 31)).toInt32) i = bt x (n + i) := by
  show (x.toUInt32 >>> ((nI n).toUInt32 &&& Int32.toUInt32 31)).toBitVec.getLsbD i = x.toUInt32.toBitVec.getLsbD (n + i)
  rw [UInt32.toBitVec_shiftRight]
  show (x.toUInt32.toBitVec >>> (((nI n).toUInt32 &&& Int32.toUInt32 31).toBitVec % 32).toNat).getLsbD i = _
  rw [s_u n hn, BitVec.getLsbD_ushiftRight]
theorem b_sshr (n : Nat) (hn : n < 32) (x : Int32) {i : Nat} (hi : i < 32) : bt (x >>> (nI n &&& 31)) i = if n + i < 32 then bt x (n + i) else bt x 31 := by
  unfold bt
  rw [Int32.toBitVec_shiftRight]
  show (x.toBitVec.sshiftRight ((nI n &&& 31).toBitVec.smod 32).toNat).getLsbD i = _
  rw [s_l n hn, BitVec.getLsbD_sshiftRight, BitVec.msb_eq_getLsbD_last]
  simp [hi]
theorem b_shl8 (x : Int32) {i : Nat} (hi : i < 32) : bt (x <<< ((8 : Int32) &&& 31)) i = (decide (8 ≤ i) && bt x (i - 8)) := b_shl 8 (by omega) x hi
theorem b_shl16 (x : Int32) {i : Nat} (hi : i < 32) : bt (x <<< ((16 : Int32) &&& 31)) i = (decide (16 ≤ i) && bt x (i - 16)) := b_shl 16 (by omega) x hi
theorem b_shl24 (x : Int32) {i : Nat} (hi : i < 32) : bt (x <<< ((24 : Int32) &&& 31)) i = (decide (24 ≤ i) && bt x (i - 24)) := b_shl 24 (by omega) x hi
theorem b_sshr8 (x : Int32) {i : Nat} (hi : i < 32) : bt (x >>> ((8 : Int32) &&& 31)) i = if 8 + i < 32 then bt x (8 + i) else bt x 31 := b_sshr 8 (by omega) x hi
/-! ===== nI under and, xor, >>>, one bit, 65535 ===== -/
theorem nx_and (a b : Nat) : nI a &&& nI b = nI (a &&& b) := by
  apply Int32.toBitVec_inj.1
  show BitVec.ofNat 32 a &&& BitVec.ofNat 32 b = BitVec.ofNat 32 (a &&& b)
  apply BitVec.eq_of_getLsbD_eq
  intro i hi
  simp [hi]
theorem nx_xor (a b : Nat) : nI a ^^^ nI b = nI (a ^^^ b) := by
  apply Int32.toBitVec_inj.1
  show BitVec.ofNat 32 a ^^^ BitVec.ofNat 32 b = BitVec.ofNat 32 (a ^^^ b)
  apply BitVec.eq_of_getLsbD_eq
  intro i hi
  simp [hi]
theorem nx_cnt : ∀ j : Fin 32, (UInt32.ofNat j.val &&& Int32.toUInt32 31).toNat % 32 = j.val := by decide +kernel
theorem nx_ush {k j : Nat} (hk : k < 65536) (hj : j < 32) : ((nI k).toUInt32 >>> ((nI j).toUInt32 &&& Int32.toUInt32 31)).toInt32 = nI (k >>> j) := by
  have hs : k >>> j ≤ k := by
    rw [Nat.shiftRight_eq_div_pow]
    exact Nat.div_le_self _ _
  have e2 : UInt32.ofNat k >>> (UInt32.ofNat j &&& Int32.toUInt32 31) = UInt32.ofNat (k >>> j) := by
    apply UInt32.toNat_inj.1
    have h1 : (UInt32.ofNat k).toNat = k := Nat.mod_eq_of_lt (by omega)
    have h2 : (UInt32.ofNat (k >>> j)).toNat = k >>> j := Nat.mod_eq_of_lt (by omega)
    rw [UInt32.toNat_shiftRight, nx_cnt ⟨j, hj⟩, h1, h2]
  show (UInt32.ofNat k >>> (UInt32.ofNat j &&& Int32.toUInt32 31)).toInt32 = _
  rw [e2]
  rfl
theorem nx_bit {k j : Nat} (hk : k < 65536) (hj : j < 16) : (((nI k).toUInt32 >>> ((nI j).toUInt32 &&& Int32.toUInt32 31)).toInt32 &&& 1) = 0 ↔ k.testBit j = false := by
  rw [nx_ush hk (by omega)]
  show nI (k >>> j) &&& nI 1 = 0 ↔ _
  rw [nx_and, Nat.and_one_is_mod, ← nI_0, nI_eq (by omega) (by omega), Nat.testBit_eq_decide_div_mod_eq, Nat.shiftRight_eq_div_pow, decide_eq_false_iff_not]
  generalize k / 2 ^ j = z
  omega
theorem nx_mod (k : Nat) : nI k &&& 65535 = nI (k % 65536) := by
  show nI k &&& nI 65535 = _
  rw [nx_and, show (65535 : Nat) = 2 ^ 16 - 1 from rfl, Nat.and_two_pow_sub_one_eq_mod]
theorem nx_m16 {k : Nat} (h : k < 65536) : nI k &&& 65535 = nI k := by rw [nx_mod, Nat.mod_eq_of_lt h]
theorem nx_mask (x : Int32) : ∃ k, k < 65536 ∧ x &&& 65535 = nI k := by
  have e : x = nI x.toBitVec.toNat := by
    apply Int32.toBitVec_inj.1
    show x.toBitVec = BitVec.ofNat 32 x.toBitVec.toNat
    simp
  refine ⟨x.toBitVec.toNat % 65536, Nat.mod_lt _ (by omega), ?_⟩
  rw [← nx_mod, ← e]
/-! ===== Int32 as a set of bits: test, set ===== -/
def nf_M (m : Int32) : Nat := 4294967296 - m.toBitVec.toNat
theorem nf_sh : ∀ l, l < 32 → ((1 : Int32) <<< (nI l &&& 31)).toBitVec = BitVec.twoPow 32 l := by decide +kernel
theorem nf_sl : ∀ l, l < 32 → (((nI l).toUInt32 &&& Int32.toUInt32 31).toBitVec % 32).toNat = l := by decide +kernel
theorem nf_tp : ∀ l, l < 32 → BitVec.twoPow 32 l ≠ 0#32 := by decide +kernel
theorem nf_bit (m : Int32) (l : Nat) (hl : l < 32) : ((m.toUInt32 >>> ((nI l).toUInt32 &&& Int32.toUInt32 31)).toInt32 &&& 1) = 0 ↔ (m &&& ((1 : Int32) <<< (nI l &&& 31))) = 0 := by
  have e : ((m.toUInt32 >>> ((nI l).toUInt32 &&& Int32.toUInt32 31)).toInt32).toBitVec = m.toBitVec >>> l := by
    show m.toBitVec >>> (((nI l).toUInt32 &&& Int32.toUInt32 31).toBitVec % 32) = m.toBitVec >>> l
    rw [BitVec.ushiftRight_eq', nf_sl l hl]
  rw [← Int32.toBitVec_inj, ← Int32.toBitVec_inj, Int32.toBitVec_and, Int32.toBitVec_and, nf_sh l hl, e, BitVec.and_twoPow]
  show (m.toBitVec >>> l &&& 1#32) = 0#32 ↔ _ = 0#32
  rw [BitVec.and_one_eq_setWidth_ofBool_getLsbD, BitVec.getLsbD_ushiftRight, Nat.add_zero]
  cases hb : m.toBitVec.getLsbD l
  · exact ⟨fun _ => by simp, fun _ => by decide⟩
  · exact ⟨fun z => absurd z (by decide), fun z => absurd ((if_pos rfl).symm.trans z) (nf_tp l hl)⟩
theorem nf_gr (m k : Int32) (h : m &&& k = 0) (hk : k ≠ 0) : nf_M (m ||| k) < nf_M m := by
  have hm := m.toBitVec.isLt
  have hm' := (m ||| k).toBitVec.isLt
  have h1 : m.toBitVec.toNat ≤ (m ||| k).toBitVec.toNat := by
    rw [Int32.toBitVec_or, BitVec.toNat_or]
    exact Nat.left_le_or
  have h2 : m.toBitVec.toNat ≠ (m ||| k).toBitVec.toNat := by
    intro e
    have e2 : m = m ||| k := Int32.toBitVec_inj.mp (BitVec.eq_of_toNat_eq e)
    apply hk
    apply Int32.toBitVec_inj.mp
    show k.toBitVec = 0#32
    apply BitVec.eq_of_getLsbD_eq
    intro i hi
    have a : m.toBitVec.getLsbD i = (m.toBitVec.getLsbD i || k.toBitVec.getLsbD i) := by rw [← BitVec.getLsbD_or, ← Int32.toBitVec_or, ← e2]
    have b : (m.toBitVec.getLsbD i && k.toBitVec.getLsbD i) = false := by
      rw [← BitVec.getLsbD_and, ← Int32.toBitVec_and, h]
      exact BitVec.getLsbD_zero
    rw [BitVec.getLsbD_zero]
    revert a b
    cases m.toBitVec.getLsbD i <;> cases k.toBitVec.getLsbD i <;> simp
  unfold nf_M
  omega
/-! ===== a byte read unsigned ===== -/
theorem bp_b (x : Int32) : x.toInt8.toInt32 &&& 255 = x &&& 255 := by
  apply Int32.toBitVec_inj.mp
  rw [Int32.toBitVec_and, Int32.toBitVec_and, Int8.toBitVec_toInt32, Int32.toBitVec_toInt8]
  apply BitVec.eq_of_getLsbD_eq
  intro i hi
  rw [BitVec.getLsbD_and, BitVec.getLsbD_and]
  have hm : ∀ i < 32, 8 ≤ i → (255 : Int32).toBitVec.getLsbD i = false := by decide
  rcases Nat.lt_or_ge i 8 with z | z
  · rw [BitVec.getLsbD_signExtend, BitVec.getLsbD_signExtend, if_pos z, if_pos hi]
    simp only [z, hi, decide_true, Bool.true_and]
  · rw [hm i hi z]; simp
/-! ===== the char cast and 65535 ===== -/
/-! ===== Int64 as a set of bits: test, set, clear ===== -/
theorem ts_nf {x : Bool} (h : ¬ x = false) : x = true := by cases x <;> first | rfl | exact absurd rfl h
theorem ts_nt {x : Bool} (h : ¬ x = true) : x = false := by cases x <;> first | rfl | exact absurd rfl h
theorem ts_bit {w : Int64} {s : UInt64} {j : Nat} (hj : j < 64) (hs : s.toNat = j) : ((w.toUInt64 >>> s).toInt64 &&& 1) = 0 ↔ w.toBitVec.getLsbD j = false := by
  have e : (w.toUInt64 >>> s).toInt64.toBitVec = w.toBitVec >>> j := by
    apply BitVec.eq_of_toNat_eq
    show (w.toUInt64 >>> s).toNat = _
    rw [UInt64.toNat_shiftRight, hs, Nat.mod_eq_of_lt hj, BitVec.toNat_ushiftRight]
    rfl
  rw [← Int64.toBitVec_inj, Int64.toBitVec_and, e]
  show w.toBitVec >>> j &&& 1#64 = 0#64 ↔ _
  constructor
  · intro h
    have t := congrArg (fun x => x.getLsbD 0) h
    simpa using t
  · intro h
    apply BitVec.eq_of_getLsbD_eq
    intro i hi
    cases i with
    | zero => simp [h]
    | succ i => simp
theorem ts_or {w m : Int64} {j : Nat} (hj : j < 64) (hm : m.toBitVec = BitVec.twoPow 64 j) : (w ||| m) = w ↔ w.toBitVec.getLsbD j = true := by
  rw [← Int64.toBitVec_inj, Int64.toBitVec_or, hm]
  constructor
  · intro h
    have t := congrArg (fun x => x.getLsbD j) h
    simp only [BitVec.getLsbD_or, BitVec.getLsbD_twoPow] at t
    simpa [hj] using t.symm
  · intro h
    apply BitVec.eq_of_getLsbD_eq
    intro i hi
    rw [BitVec.getLsbD_or, BitVec.getLsbD_twoPow]
    by_cases e : j = i
    · subst e; rw [h, Bool.true_or]
    · simp [e]
theorem ts_and {w m : Int64} {j : Nat} (hj : j < 64) (hm : m.toBitVec = BitVec.twoPow 64 j) : (w &&& (m ^^^ (-1))) = w ↔ w.toBitVec.getLsbD j = false := by
  have ha : (-1 : Int64).toBitVec = BitVec.allOnes 64 := by decide
  rw [← Int64.toBitVec_inj, Int64.toBitVec_and, Int64.toBitVec_xor, hm, ha]
  constructor
  · intro h
    have t := congrArg (fun x => x.getLsbD j) h
    simp only [BitVec.getLsbD_and, BitVec.getLsbD_xor, BitVec.getLsbD_twoPow, BitVec.getLsbD_allOnes] at t
    simpa [hj] using t.symm
  · intro h
    apply BitVec.eq_of_getLsbD_eq
    intro i hi
    rw [BitVec.getLsbD_and, BitVec.getLsbD_xor, BitVec.getLsbD_twoPow, BitVec.getLsbD_allOnes]
    by_cases e : j = i
    · subst e; rw [h, Bool.false_and]
    · simp [e, hi]
/-! ===== lN n to 2^64: shifts, and, or, masks, one bit ===== -/
theorem wb_tb (n : Nat) : (lN n).toBitVec = BitVec.ofNat 64 n := rfl
theorem wb_inj {a b : Int64} (h : a.toBitVec = b.toBitVec) : a = b := Int64.toBitVec_inj.mp h
theorem wb_tn {n : Nat} (h : n < 2 ^ 64) : (lN n).toBitVec.toNat = n := by rw [wb_tb, BitVec.toNat_ofNat, Nat.mod_eq_of_lt h]
theorem wb_of (x : Int64) : ∃ n, n < 2 ^ 64 ∧ x = lN n := ⟨x.toBitVec.toNat, x.toBitVec.isLt, wb_inj (by rw [wb_tb]; simp)⟩
theorem wb_of32 (x : Int32) : ∃ n, n < 2 ^ 32 ∧ x = nI n := ⟨x.toBitVec.toNat, x.toBitVec.isLt, Int32.toBitVec_inj.mp (by show _ = BitVec.ofNat 32 _; simp)⟩
theorem wb_c : ∀ k, k < 64 → ((nI k).toInt64 &&& 63) = lN k := by decide +kernel
theorem wb_cu : ∀ k, k < 64 → ((nI k).toInt64.toUInt64 &&& Int64.toUInt64 63) = UInt64.ofNat k := by decide +kernel
theorem wb_sm : ∀ k, k < 64 → (BitVec.ofNat 64 k).smod 64 = BitVec.ofNat 64 k := by decide +kernel
theorem wb_pw {a b : Nat} (h : a ≤ b) : 2 ^ b = 2 ^ a * 2 ^ (b - a) := by rw [← Nat.pow_add]; congr 1; omega
theorem wb_lt2 {a b : Nat} (h : a < b) : 2 ^ a < 2 ^ b := Nat.pow_lt_pow_right (by decide) h
theorem wb_mod (n : Nat) : lN n = lN (n % 2 ^ 64) := wb_inj (by rw [wb_tb, wb_tb]; apply BitVec.eq_of_toNat_eq; rw [BitVec.toNat_ofNat, BitVec.toNat_ofNat, Nat.mod_mod])
theorem wb_shr {n k : Nat} (hn : n < 2 ^ 64) (hk : k < 64) : ((lN n).toUInt64 >>> ((nI k).toInt64.toUInt64 &&& Int64.toUInt64 63)).toInt64 = lN (n / 2 ^ k) := by
  rw [wb_cu k hk]
  apply wb_inj
  apply BitVec.eq_of_toNat_eq
  show ((lN n).toUInt64 >>> UInt64.ofNat k).toNat = (BitVec.ofNat 64 _).toNat
  have h1 : (UInt64.ofNat k).toNat = k := by
    show (BitVec.ofNat 64 k).toNat = k
    rw [BitVec.toNat_ofNat, Nat.mod_eq_of_lt (by omega)]
  have h2 : (lN n).toUInt64.toNat = n := wb_tn hn
  rw [UInt64.toNat_shiftRight, h1, h2, Nat.mod_eq_of_lt hk, Nat.shiftRight_eq_div_pow, BitVec.toNat_ofNat, Nat.mod_eq_of_lt (Nat.lt_of_le_of_lt (Nat.div_le_self _ _) hn)]
theorem wb_shl (n : Nat) {k : Nat} (hk : k < 64) : lN n <<< ((nI k).toInt64 &&& 63) = lN (n * 2 ^ k) := by
  rw [wb_c k hk]
  apply wb_inj
  rw [Int64.toBitVec_shiftLeft, wb_tb, wb_tb, wb_tb, wb_sm k hk]
  apply BitVec.eq_of_toNat_eq
  rw [BitVec.shiftLeft_eq', BitVec.toNat_shiftLeft, BitVec.toNat_ofNat, BitVec.toNat_ofNat, BitVec.toNat_ofNat, Nat.mod_eq_of_lt (show k < 2 ^ 64 by omega), Nat.shiftLeft_eq, Nat.mul_mod, Nat.mod_mod, ← Nat.mul_mod]
theorem wb_and {a b : Nat} (ha : a < 2 ^ 64) (hb : b < 2 ^ 64) : lN a &&& lN b = lN (a &&& b) := by
  apply wb_inj
  rw [Int64.toBitVec_and, wb_tb, wb_tb, wb_tb]
  apply BitVec.eq_of_toNat_eq
  rw [BitVec.toNat_and, BitVec.toNat_ofNat, BitVec.toNat_ofNat, BitVec.toNat_ofNat, Nat.mod_eq_of_lt ha, Nat.mod_eq_of_lt hb, Nat.mod_eq_of_lt (Nat.and_lt_two_pow _ hb)]
theorem wb_or {a b : Nat} (ha : a < 2 ^ 64) (hb : b < 2 ^ 64) : lN a ||| lN b = lN (a ||| b) := by
  apply wb_inj
  rw [Int64.toBitVec_or, wb_tb, wb_tb, wb_tb]
  apply BitVec.eq_of_toNat_eq
  rw [BitVec.toNat_or, BitVec.toNat_ofNat, BitVec.toNat_ofNat, BitVec.toNat_ofNat, Nat.mod_eq_of_lt ha, Nat.mod_eq_of_lt hb, Nat.mod_eq_of_lt (Nat.or_lt_two_pow ha hb)]
theorem wb_mask {n k : Nat} (hn : n < 2 ^ 64) (hk : k < 64) : lN n &&& lN (2 ^ k - 1) = lN (n % 2 ^ k) := by
  rw [wb_and hn (by have := wb_lt2 hk; omega), Nat.and_two_pow_sub_one_eq_mod]
theorem wb_a1 {n : Nat} (hn : n < 2 ^ 64) : lN n &&& 1 = lN (n % 2) := wb_mask (k := 1) hn (by decide)
theorem wb_bit {n k : Nat} (hn : n < 2 ^ 64) (hk : k < 64) : ((lN n).toUInt64 >>> ((nI k).toInt64.toUInt64 &&& Int64.toUInt64 63)).toInt64 &&& 1 = lN (n / 2 ^ k % 2) := by
  rw [wb_shr hn hk, wb_a1 (Nat.lt_of_le_of_lt (Nat.div_le_self _ _) hn)]
theorem wb_xor {q k : Nat} (hk : k < 63) (h : 2 ^ k ≤ q) (h2 : q < 2 ^ (k + 1)) : lN q ^^^ lN (2 ^ k) = lN (q - 2 ^ k) := by
  obtain ⟨r, rfl⟩ : ∃ r, q = 2 ^ k + r := ⟨q - 2 ^ k, by omega⟩
  have hr : r < 2 ^ k := by rw [Nat.pow_succ] at h2; omega
  have hx : (2 ^ k + r) ^^^ 2 ^ k = r := by
    apply Nat.eq_of_testBit_eq
    intro i
    rw [Nat.testBit_xor, Nat.testBit_two_pow]
    rcases Nat.lt_trichotomy i k with h | h | h
    · rw [Nat.testBit_two_pow_add_gt h]
      simp [show ¬ k = i by omega]
    · subst h
      rw [Nat.testBit_two_pow_add_eq]
      simp
    · have a1 : 2 ^ (k + 1) ≤ 2 ^ i := Nat.pow_le_pow_right (by decide) h
      rw [Nat.testBit_lt_two_pow (show 2 ^ k + r < 2 ^ i by omega), Nat.testBit_lt_two_pow (show r < 2 ^ i by omega)]
      simp [show ¬ k = i by omega]
  have b1 := wb_lt2 (show k + 1 < 64 by omega)
  have b2 := wb_lt2 (show k < 64 by omega)
  apply wb_inj
  rw [Int64.toBitVec_xor, wb_tb, wb_tb, wb_tb]
  apply BitVec.eq_of_toNat_eq
  rw [BitVec.toNat_xor, BitVec.toNat_ofNat, BitVec.toNat_ofNat, BitVec.toNat_ofNat, Nat.mod_eq_of_lt (by omega : 2 ^ k + r < 2 ^ 64), Nat.mod_eq_of_lt b2, hx, Nat.add_sub_cancel_left, Nat.mod_eq_of_lt (by omega)]
/-! ===== lN: masks, 'or' of parts that don't overlap is a sum ===== -/
theorem u_tn {n : Nat} (h : n < 2 ^ 64) : (UInt64.ofNat n).toNat = n := Nat.mod_eq_of_lt h
theorem g_and {a b c : Nat} (ha : a < 2 ^ 64) (hb : b < 2 ^ 64) (hc : a &&& b = c) : lN a &&& lN b = lN c := by
  subst hc
  have h : UInt64.ofNat a &&& UInt64.ofNat b = UInt64.ofNat (a &&& b) := UInt64.toNat_inj.mp (by rw [UInt64.toNat_and, u_tn ha, u_tn hb, u_tn (Nat.and_lt_two_pow a hb)])
  have h2 := congrArg UInt64.toInt64 h
  exact h2
theorem g_and1 {a : Nat} (ha : a < 2 ^ 64) : lN a &&& 1 = lN (a % 2) := g_and (b := 1) ha (by decide) (Nat.and_two_pow_sub_one_eq_mod a 1)
theorem g_mask {a s p : Nat} (hp : 2 ^ s = p) (hs : s < 64) (ha : a < 2 ^ 64) : lN a &&& lN (p - 1) = lN (a % p) := by
  subst hp
  have := Nat.pow_lt_pow_right (show 1 < 2 by decide) hs
  exact g_and ha (by omega) (Nat.and_two_pow_sub_one_eq_mod a s)
theorem g_or {k p a b : Nat} (hp : 2 ^ k = p) (ha : a < p) (h : b * p + a < 2 ^ 64) : lN (b * p) ||| lN a = lN (b * p + a) := by
  subst hp
  have h1 : b * 2 ^ k ||| a = b * 2 ^ k + a := by rw [← Nat.shiftLeft_eq, Nat.shiftLeft_add_eq_or_of_lt ha]
  have h3 : UInt64.ofNat (b * 2 ^ k) ||| UInt64.ofNat a = UInt64.ofNat (b * 2 ^ k + a) := UInt64.toNat_inj.mp (by rw [UInt64.toNat_or, u_tn (by omega), u_tn (by omega), u_tn h, h1])
  have h2 := congrArg UInt64.toInt64 h3
  exact h2
theorem g_or' {k p a b : Nat} (hp : 2 ^ k = p) (ha : a < p) (h : a + b * p < 2 ^ 64) : lN a ||| lN (b * p) = lN (a + b * p) := by
  rw [Int64.or_comm, g_or hp ha (by omega), Nat.add_comm]
theorem g_ushr {a k p : Nat} {y : UInt64} (hy : y = UInt64.ofNat k) (hk : k < 64) (hp : 2 ^ k = p) (ha : a < 2 ^ 64) : ((lN a).toUInt64 >>> y).toInt64 = lN (a / p) := by
  subst hy hp
  have h : UInt64.ofNat a >>> UInt64.ofNat k = UInt64.ofNat (a / 2 ^ k) := UInt64.toNat_inj.mp (by rw [UInt64.toNat_shiftRight, u_tn ha, u_tn (by omega), u_tn (Nat.lt_of_le_of_lt (Nat.div_le_self _ _) ha), Nat.mod_eq_of_lt hk, Nat.shiftRight_eq_div_pow])
  have h2 := congrArg UInt64.toInt64 h
  exact h2
theorem g_shl {a k p : Nat} {y : Int64} (hy : y.toBitVec.smod 64 = BitVec.ofNat 64 k) (hk : k < 64) (hp : 2 ^ k = p) (ha : a < 2 ^ 64) : lN a <<< y = lN (a * p) := by
  subst hp
  apply Int64.toBitVec_inj.mp
  rw [Int64.toBitVec_shiftLeft, hy]
  apply BitVec.eq_of_toNat_eq
  have hb : (lN a).toBitVec.toNat = a := Nat.mod_eq_of_lt ha
  have hk' : (BitVec.ofNat 64 k).toNat = k := Nat.mod_eq_of_lt (by omega)
  have h : ((lN a).toBitVec <<< BitVec.ofNat 64 k).toNat = (a * 2 ^ k) % 2 ^ 64 := by simp only [BitVec.shiftLeft_eq', BitVec.toNat_shiftLeft, hb, hk', Nat.shiftLeft_eq]
  exact h
/-! ===== lN to 2^62 under >> and >>> ===== -/
theorem pf_lI {a : Nat} (h : a < 2 ^ 63) : (lN a).toInt = (a : Int) := lg_ofNat_toInt h
theorem pf_shr {a d : Nat} {D : Int64} (hD : (D.toBitVec.smod 64).toNat = d) (h : a < 2 ^ 62) : lN a >>> D = lN (a / 2 ^ d) := by
  have hd : a / 2 ^ d ≤ a := Nat.div_le_self _ _
  apply Int64.toInt_inj.mp
  have e : (lN a >>> D).toInt = (lN a).toInt >>> d := by
    rw [← hD]
    exact BitVec.toInt_sshiftRight ..
  rw [e, Int.shiftRight_eq_div_pow, pf_lI (by omega), pf_lI (by omega)]
  rfl
theorem pf_ushr {a d : Nat} {D : UInt64} (hD : D.toNat % 64 = d) (h : a < 2 ^ 62) : ((lN a).toUInt64 >>> D).toInt64 = lN (a / 2 ^ d) := by
  have hd : a / 2 ^ d ≤ a := Nat.div_le_self _ _
  have e : (lN a).toUInt64 >>> D = UInt64.ofNat (a / 2 ^ d) := UInt64.toNat_inj.mp (by
    rw [UInt64.toNat_shiftRight, hD, Nat.shiftRight_eq_div_pow, UInt64.toNat_ofNat']
    show (UInt64.ofNat a).toNat / 2 ^ d = _
    rw [UInt64.toNat_ofNat', Nat.mod_eq_of_lt (by omega), Nat.mod_eq_of_lt (by omega)])
  rw [e]
  rfl
theorem pf_andw (x : Int64) : ∃ m, m < 2 ^ 32 ∧ x &&& 4294967295 = lN m := ⟨x.toBitVec.toNat % 2 ^ 32, Nat.mod_lt _ (by decide), Int64.toBitVec_inj.mp (BitVec.eq_of_toNat_eq (by
  show (x.toBitVec &&& 4294967295#64).toNat = (BitVec.ofNat 64 (x.toBitVec.toNat % 2 ^ 32)).toNat
  rw [BitVec.toNat_and, show (4294967295#64).toNat = 2 ^ 32 - 1 from by decide, Nat.and_two_pow_sub_one_eq_mod, BitVec.toNat_ofNat]
  omega))⟩
/-! ===== Int64 as an unsigned number: uN x ===== -/
def uN (x : Int64) : Nat := x.toUInt64.toNat
theorem uN_lt (x : Int64) : uN x < 18446744073709551616 := x.toUInt64.toNat_lt
theorem uN_inj {x y : Int64} (h : uN x = uN y) : x = y := congrArg UInt64.toInt64 (UInt64.toNat_inj.mp h)
theorem uN_add (x y : Int64) : uN (x + y) = (uN x + uN y) % 18446744073709551616 := by
  show (x.toUInt64 + y.toUInt64).toNat = _
  exact UInt64.toNat_add _ _
theorem uN_mul (x y : Int64) : uN (x * y) = (uN x * uN y) % 18446744073709551616 := by
  show (x.toUInt64 * y.toUInt64).toNat = _
  exact UInt64.toNat_mul _ _
theorem uN_shl (x : Int64) : uN (x <<< ((1 : Int32).toInt64 &&& 63)) = (2 * uN x) % 18446744073709551616 := by
  have h : (((1 : Int32).toInt64 &&& 63).toBitVec.smod 64).toNat = 1 := by decide
  show (x.toBitVec <<< (((1 : Int32).toInt64 &&& 63).toBitVec.smod 64).toNat).toNat = _
  rw [h, BitVec.toNat_shiftLeft, Nat.shiftLeft_eq, Nat.mul_comm]
  rfl
theorem uN_shr (x : Int64) (s : UInt64) : uN (x.toUInt64 >>> s).toInt64 = uN x / 2 ^ (s.toNat % 64) := by
  show (x.toUInt64 >>> s).toNat = _
  rw [UInt64.toNat_shiftRight, Nat.shiftRight_eq_div_pow]
  rfl
theorem uN_s32 (x : Int64) : uN (x.toUInt64 >>> ((32 : Int32).toInt64.toUInt64 &&& Int64.toUInt64 63)).toInt64 = uN x / 4294967296 := by
  have h : ((32 : Int32).toInt64.toUInt64 &&& Int64.toUInt64 63).toNat % 64 = 32 := by decide
  rw [uN_shr, h]
theorem uN_s63 (x : Int64) : uN (x.toUInt64 >>> ((63 : Int32).toInt64.toUInt64 &&& Int64.toUInt64 63)).toInt64 = uN x / 9223372036854775808 := by
  have h : ((63 : Int32).toInt64.toUInt64 &&& Int64.toUInt64 63).toNat % 64 = 63 := by decide
  rw [uN_shr, h]
theorem uN_lo (x : Int64) : uN (x &&& 4294967295) = uN x % 4294967296 := by
  show (x.toUInt64 &&& Int64.toUInt64 4294967295).toNat = _
  rw [UInt64.toNat_and]
  exact Nat.and_two_pow_sub_one_eq_mod _ 32
theorem uN_bit (x : Int64) : (x &&& 1) = 0 ↔ uN x % 2 = 0 := by
  have h : uN (x &&& 1) = uN x % 2 := by
    show (x.toUInt64 &&& Int64.toUInt64 1).toNat = _
    rw [UInt64.toNat_and]
    exact Nat.and_two_pow_sub_one_eq_mod _ 1
  rw [← h]
  exact ⟨fun z => by rw [z]; rfl, fun z => uN_inj (z.trans rfl)⟩
theorem uN_or {x y : Int64} (hy : uN y < 2) : uN ((x <<< ((1 : Int32).toInt64 &&& 63)) ||| y) = (2 * uN x) % 18446744073709551616 + uN y := by
  have h1 : uN ((x <<< ((1 : Int32).toInt64 &&& 63)) ||| y) = uN (x <<< ((1 : Int32).toInt64 &&& 63)) ||| uN y := UInt64.toNat_or _ _
  have h2 : (2 * uN x) % 18446744073709551616 = 2 ^ 1 * (uN x % 9223372036854775808) := by omega
  rw [h1, uN_shl, h2]
  exact (Nat.two_pow_add_eq_or_of_lt (i := 1) hy _).symm
theorem nat_xor {a : Nat} (h : a < 18446744073709551616) : a ^^^ 2 ^ 63 = (a + 9223372036854775808) % 18446744073709551616 := by
  have h1 : (a ^^^ 2 ^ 63) % 2 ^ 63 = a % 2 ^ 63 := by rw [Nat.xor_mod_two_pow, Nat.mod_self, Nat.xor_zero]
  have h2 : (a ^^^ 2 ^ 63) / 2 ^ 63 = (a / 2 ^ 63) ^^^ 1 := by rw [Nat.xor_div_two_pow, Nat.div_self (Nat.two_pow_pos 63)]
  have h3 : a / 2 ^ 63 = 0 ∨ a / 2 ^ 63 = 1 := by omega
  generalize a ^^^ 2 ^ 63 = t at h1 h2
  rcases h3 with h3 | h3
  · rw [h3] at h2
    have h2 : t / 2 ^ 63 = 1 := h2
    omega
  · rw [h3] at h2
    have h2 : t / 2 ^ 63 = 0 := h2
    omega
theorem uN_xor (x : Int64) : uN (x ^^^ (-9223372036854775808)) = (uN x + 9223372036854775808) % 18446744073709551616 := by
  rw [← nat_xor (uN_lt x)]
  exact UInt64.toNat_xor _ _
theorem uN_int (x : Int64) : x.toInt = if 2 * uN x < 18446744073709551616 then (uN x : Int) else (uN x : Int) - 18446744073709551616 := BitVec.toInt_eq_toNat_cond _
theorem uN_le (x y : Int64) : (x ^^^ (-9223372036854775808)) ≤ (y ^^^ (-9223372036854775808)) ↔ uN x ≤ uN y := by
  have hx := uN_lt x
  have hy := uN_lt y
  rw [Int64.le_iff_toInt_le, uN_int, uN_int, uN_xor, uN_xor]
  omega
theorem uN_sk (x : Int64) {k : Nat} (hk : k < 64) : uN (x.toUInt64 >>> ((nI k).toInt64.toUInt64 &&& Int64.toUInt64 63)).toInt64 = uN x / 2 ^ k := by
  have h : ((nI k).toInt64.toUInt64 &&& Int64.toUInt64 63).toNat % 64 = k := by
    rw [nI_l (by omega), UInt64.toNat_and]
    have e : (lN k).toUInt64.toNat = k % 2 ^ 64 := rfl
    have e2 : (Int64.toUInt64 63).toNat = 2 ^ 6 - 1 := by decide
    rw [e, e2, Nat.and_two_pow_sub_one_eq_mod]
    omega
  rw [uN_shr, h]
/-! ===== unsigned comparison by xor with the least ===== -/
theorem lN_bv (n : Nat) : (lN n).toBitVec = BitVec.ofNat 64 n := rfl
theorem lN_nat {n : Nat} (h : n < 2 ^ 64) : (lN n).toBitVec.toNat = n := by rw [lN_bv, BitVec.toNat_ofNat]; exact Nat.mod_eq_of_lt h
theorem lN_xor (a b : Nat) : lN a ^^^ lN b = lN (a ^^^ b) := by
  apply Int64.toBitVec_inj.mp; rw [Int64.toBitVec_xor, lN_bv, lN_bv, lN_bv]; apply BitVec.eq_of_getLsbD_eq; intro i hi; simp [BitVec.getLsbD_ofNat, Nat.testBit_xor, hi]
theorem lN_ti {m : Nat} (h : m < 2 ^ 64) : (lN m).toInt = if m < 2 ^ 63 then (m : Int) else (m : Int) - 2 ^ 64 := by
  have c := BitVec.toInt_eq_toNat_cond (lN m).toBitVec
  rw [lN_nat h] at c
  show (lN m).toBitVec.toInt = _
  rw [c]
  split <;> split <;> omega
theorem xor63 {x : Nat} (h : x < 2 ^ 63) : x ^^^ 2 ^ 63 = 2 ^ 63 + x := by
  apply Nat.eq_of_testBit_eq
  intro i
  rw [Nat.testBit_xor, Nat.testBit_two_pow]
  rcases Nat.lt_trichotomy i 63 with z | z | z
  · rw [Nat.testBit_two_pow_add_gt z, decide_eq_false (by omega)]; simp
  · subst z; rw [Nat.testBit_two_pow_add_eq]; simp
  · have hp : 2 ^ 64 ≤ 2 ^ i := Nat.pow_le_pow_right (by decide) z
    rw [Nat.testBit_lt_two_pow (show x < 2 ^ i by omega), Nat.testBit_lt_two_pow (show 2 ^ 63 + x < 2 ^ i by omega), decide_eq_false (by omega)]; rfl
theorem xorS {a : Nat} (h : a < 2 ^ 64) : (lN a ^^^ (-9223372036854775808)).toInt = (a : Int) - 2 ^ 63 := by
  rw [show (-9223372036854775808 : Int64) = lN (2 ^ 63) from by decide +kernel, lN_xor]
  rcases Nat.lt_or_ge a (2 ^ 63) with z | z
  · rw [xor63 z, lN_ti (by omega), if_neg (by omega)]; omega
  · obtain ⟨x, rfl⟩ : ∃ x, a = 2 ^ 63 + x := ⟨a - 2 ^ 63, by omega⟩
    rw [← xor63 (by omega), Nat.xor_assoc, Nat.xor_self, Nat.xor_zero, lN_ti (by omega), if_pos (by omega), xor63 (by omega)]; omega
theorem ultL {a b : Nat} (ha : a < 2 ^ 64) (hb : b < 2 ^ 64) : ((lN b ^^^ (-9223372036854775808)) ≤ (lN a ^^^ (-9223372036854775808))) ↔ b ≤ a := by
  rw [Int64.le_iff_toInt_le, xorS ha, xorS hb]; omega
/-! ===== Int64 masks of n low bits ===== -/
theorem cr_bits (W U M : BitVec 64) : ((W &&& U) &&& (U &&& (M ^^^ BitVec.allOnes 64))) = 0#64 ↔ (W &&& U) &&& M = W &&& U := by
  constructor
  · intro h
    apply BitVec.eq_of_getLsbD_eq
    intro i hi
    have e := congrArg (fun x => BitVec.getLsbD x i) h
    simp only [BitVec.getLsbD_and, BitVec.getLsbD_xor, BitVec.getLsbD_allOnes, BitVec.getLsbD_zero, hi, decide_true] at e ⊢
    revert e
    cases W.getLsbD i <;> cases U.getLsbD i <;> cases M.getLsbD i <;> decide
  · intro h
    apply BitVec.eq_of_getLsbD_eq
    intro i hi
    have e := congrArg (fun x => BitVec.getLsbD x i) h
    simp only [BitVec.getLsbD_and, BitVec.getLsbD_xor, BitVec.getLsbD_allOnes, BitVec.getLsbD_zero, hi, decide_true] at e ⊢
    revert e
    cases W.getLsbD i <;> cases U.getLsbD i <;> cases M.getLsbD i <;> decide
theorem cr_mask (w U m : Int64) (n : Nat) (hm : m.toBitVec.toNat = 2 ^ n - 1) : ((w &&& U) &&& (U &&& (m ^^^ (-1)))) = 0 ↔ (w &&& U).toBitVec.toNat < 2 ^ n := by
  have e0 : (-1 : Int64).toBitVec = BitVec.allOnes 64 := by decide
  have z0 : (0 : Int64).toBitVec = 0#64 := by decide
  rw [← Int64.toBitVec_inj, z0, Int64.toBitVec_and, Int64.toBitVec_and, Int64.toBitVec_and, Int64.toBitVec_xor, e0, cr_bits]
  generalize w.toBitVec &&& U.toBitVec = T
  rw [← BitVec.toNat_inj, BitVec.toNat_and, hm, Nat.and_two_pow_sub_one_eq_mod]
  constructor
  · intro h
    have t := Nat.mod_lt T.toNat (Nat.two_pow_pos n)
    rw [h] at t
    exact t
  · exact Nat.mod_eq_of_lt
theorem cr_shr (t : Int64) (x : UInt64) (n : Nat) (hx : x.toNat % 64 = n) : (t.toUInt64 >>> x).toInt64 = 0 ↔ t.toBitVec.toNat < 2 ^ n := by
  rw [← Int64.toBitVec_inj, ← BitVec.toNat_inj]
  show (t.toUInt64 >>> x).toNat = 0 ↔ t.toUInt64.toNat < 2 ^ n
  rw [UInt64.toNat_shiftRight, hx, Nat.shiftRight_eq_div_pow]
  constructor
  · intro h
    have d : t.toUInt64.toNat / 2 ^ n < 1 := by
      rw [h]
      decide
    have e := (Nat.div_lt_iff_lt_mul (Nat.two_pow_pos n)).mp d
    rw [Nat.one_mul] at e
    exact e
  · exact Nat.div_eq_of_lt
theorem cr_amt (s : Int64) : ∃ n, n < 64 ∧ s &&& 63 = lN n ∧ (s.toUInt64 &&& Int64.toUInt64 63).toNat % 64 = n := by
  have e : (s.toUInt64 &&& Int64.toUInt64 63).toNat = s.toUInt64.toNat % 2 ^ 6 := by
    rw [UInt64.toNat_and, show (Int64.toUInt64 63).toNat = 2 ^ 6 - 1 from by decide, Nat.and_two_pow_sub_one_eq_mod]
  refine ⟨s.toUInt64.toNat % 2 ^ 6, by omega, ?_, by omega⟩
  rw [← Int64.toBitVec_inj, ← BitVec.toNat_inj]
  show (s.toUInt64 &&& Int64.toUInt64 63).toNat = (BitVec.ofNat 64 (s.toUInt64.toNat % 2 ^ 6)).toNat
  rw [e, BitVec.toNat_ofNat]
  omega
end
section
-- the nest's words, as data, so that they move in one lemma
def nwF : List (String × Nat × String × String × String × String) := [(RX1, 16, "CycleHouse$Graph", "vertices", "I", "CycleHouse"), (RX6, 18, "CycleHouse$Graph", "vertices", "I", "CycleHouse"), (RX4, 47, "CycleHouse$Graph", "vertices", "I", "CycleHouse"), (RX7, 205, "CycleHouse$Graph", "vertices", "I", "CycleHouse"), (RX7, 69, "CycleHouse$Graph", "edges", "I", "CycleHouse"), (RX1, 28, "CycleHouse$Graph", "edges", "I", "CycleHouse"), (RX0, 22, "CycleHouse$Graph", "edges", "I", "CycleHouse"), (RX6, 30, "CycleHouse$Graph", "edges", "I", "CycleHouse"), (RX4, 58, "CycleHouse$Graph", "edges", "I", "CycleHouse"), (RX0, 28, "CycleHouse$Graph", "from", "[I", "CycleHouse"), (RX1, 37, "CycleHouse$Graph", "from", "[I", "CycleHouse"), (RX3, 26, "CycleHouse$Graph", "from", "[I", "CycleHouse"), (RX6, 33, "CycleHouse$Graph", "from", "[I", "CycleHouse"), (RX4, 65, "CycleHouse$Graph", "from", "[I", "CycleHouse"), (RX7, 141, "CycleHouse$Graph", "from", "[I", "CycleHouse"), (RX0, 32, "CycleHouse$Graph", "to", "[I", "CycleHouse"), (RX1, 40, "CycleHouse$Graph", "to", "[I", "CycleHouse"), (RX3, 31, "CycleHouse$Graph", "to", "[I", "CycleHouse"), (RX6, 37, "CycleHouse$Graph", "to", "[I", "CycleHouse"), (RX4, 69, "CycleHouse$Graph", "to", "[I", "CycleHouse"), (RX7, 149, "CycleHouse$Graph", "to", "[I", "CycleHouse"), (RX6, 40, "CycleHouse$Graph", "weight", "[I", "CycleHouse"), (RX4, 82, "CycleHouse$Graph", "weight", "[I", "CycleHouse"), (RX7, 158, "CycleHouse$Graph", "weight", "[I", "CycleHouse"), (RX7, 192, "CycleHouse$SetList", "sets", "I", "CycleHouse"), (RX7, 218, "CycleHouse$SetList", "rank", "I", "CycleHouse"), (RX7, 244, "CycleHouse$Groups", "count", "I", "CycleHouse"), (RX1, 31, "CycleHouse$Groups", "name", "[I", "CycleHouse"), (RX4, 79, "CycleHouse$Ways", "length", "[J", "CycleHouse"), (RX7, 155, "CycleHouse$Ways", "length", "[J", "CycleHouse"), (RX4, 72, "CycleHouse$Ways", "way", "[J", "CycleHouse"), (RX7, 167, "CycleHouse$LightBasis", "weight", "[J", "CycleHouse")]
def nwM : List (String × Nat × MethodName × String) := [(RX2, 28, yX7_has, "CycleHouse"), (RX5, 38, yX7_has, "CycleHouse")]
def nwOK (U : State) : Prop := (∀ q ∈ nwF, va_Nw (.fieldLinkNest q.1 q.2.1 q.2.2.1 q.2.2.2.1 q.2.2.2.2.1 q.2.2.2.2.2) U) ∧ ∀ q ∈ nwM, va_Nw (.methodLinkNest q.1 q.2.1 q.2.2.1 q.2.2.2) U
theorem nwOK.moved {s U : State} (hW : s.WarmedH U.vm) (h : nwOK s) : nwOK U := ⟨fun q hq => va_Nw.warmF hW (h.1 q hq), fun q hq => va_Nw.warmM hW (h.2 q hq)⟩
theorem nwOK.same {s U : State} (hW : s.vm = U.vm) (h : nwOK s) : nwOK U := ⟨fun q hq => va_Nw.same rfl hW (h.1 q hq), fun q hq => va_Nw.same rfl hW (h.2 q hq)⟩
theorem nwOK.f {s : State} (h : nwOK s) {A : Array Value} (a : String) (i : Nat) (b n d t : String) (hq : (a, i, b, n, d, t) ∈ nwF) : (Cond.fieldLinkNest a i b n d t).before A s = true := va_Nw.use rfl (h.1 _ hq)
theorem nwOK.m {s : State} (h : nwOK s) (a : String) (i : Nat) (y : MethodName) (t : String) (hq : (a, i, y, t) ∈ nwM) : va_Nw (.methodLinkNest a i y t) s := h.2 _ hq
-- contracts over a world that is a function of a state u
def ctB {σ : Type} (G : va_G) (tys : List (ClassId × FieldType)) (Wd : σ → va_W) (A : Nat → Prop) (u : σ) (t : State) : Prop := va_P G vwCl (Wd u) t.heap ∧ va_K G vwCl tys t ∧ va_D A (Wd u)
def ctP {σ : Type} (G : va_G) (tys : List (ClassId × FieldType)) (Wd : σ → va_W) (av : List Value) (u : σ) (sz : Nat) : Array Value → State → Prop := va_Pc av (fun U => U.heap.size = sz ∧ va_P G vwCl (Wd u) U.heap ∧ va_K G vwCl tys U ∧ va_D (fun _ => True) (Wd u) ∧ nwOK U)
abbrev ctR (rm : Nat × Nat) : Room := { frames := rm.1, cells := 0, slots := 0, locals := rm.2 }
def ctI {σ : Type} (l : Launch) (G : va_G) (tys : List (ClassId × FieldType)) (Wd : σ → va_W) (y : MethodName) (ws : List Cond) (rm : Nat × Nat) (av : List Value) (u : σ) (post : Int32 → σ → Prop) : Prop :=
  ∀ sz : Nat, Met l y ws (ctR rm) (ctP G tys Wd av u sz) (va_Qi post (ctB G tys Wd (va_A (Wd u) sz)) (va_A (Wd u) sz)) 0 0 (va_A (Wd u) sz)
def ctL {σ : Type} (l : Launch) (G : va_G) (tys : List (ClassId × FieldType)) (Wd : σ → va_W) (y : MethodName) (ws : List Cond) (rm : Nat × Nat) (av : List Value) (u : σ) (post : Int64 → σ → Prop) : Prop :=
  ∀ sz : Nat, Met l y ws (ctR rm) (ctP G tys Wd av u sz) (va_Ql post (ctB G tys Wd (va_A (Wd u) sz)) (va_A (Wd u) sz)) 0 0 (va_A (Wd u) sz)
def ctV {σ : Type} (l : Launch) (G : va_G) (tys : List (ClassId × FieldType)) (Wd : σ → va_W) (y : MethodName) (ws : List Cond) (rm : Nat × Nat) (av : List Value) (u : σ) (post : σ → Prop) : Prop :=
  ∀ sz : Nat, Met l y ws (ctR rm) (ctP G tys Wd av u sz) (va_Qv post (ctB G tys Wd (va_A (Wd u) sz)) (va_A (Wd u) sz)) 0 0 (va_A (Wd u) sz)
/-- the body's head, whatever the answer: Q is a name, the way out a hypothesis -/
theorem ct_head {σ : Type} {l : Launch} {G : va_G} {tys : List (ClassId × FieldType)} {Wd : σ → va_W} {y : MethodName} {ws ws' : List Cond} {rm : Nat × Nat} {av : List Value} {u : σ} {sz : Nat} {Qc : Array Value → State → Outcome → State → Prop} {cc : ByteArray} {maxL : Nat} {ret : Option FieldType}
    (hy : plainName y.cls = true) (hw : ws = Cond.code y cc maxL ret :: ws') (hav : (lg_sl av).length ≤ maxL)
    (body : ∀ (p : Program) (e : Env) (s : State) (m : MethodId) (below : List Frame) (meth : Method) (c : Code) (ls : Array Slot), s.heap.size = sz → CallFix p m c cc maxL s av.toArray ws y.cls → meth.sig.returnType = ret → meth.locks = false → va_K G vwCl tys s → nwOK s → va_P G vwCl (Wd u) s.heap → va_D (va_A (Wd u) sz) (Wd u) → (∀ q, s.heap.size ≤ q → (va_A (Wd u) sz) q) → lv_has ls maxL (lv_args 0 av) →
      W p l e (ctR rm) s m av.toArray below meth c s.heap [] 0 0 (MQ below Qc av.toArray s 0 0 (va_A (Wd u) sz)) (F0 m 0 ls [])) : Met l y ws (ctR rm) (ctP G tys Wd av u sz) Qc 0 0 (va_A (Wd u) sz) := by
  refine Met.ofW (cc := cc) (maxL := maxL) (ret := ret) hy hw ?_
  intro p e s m args below meth c s₁ B hml hv
  obtain ⟨rfl, hsz, hP, hK, hD0, hN⟩ := hv
  have hts := atoms_spec (ws := ws) B.pre
  have hown : s.vm.findClass y.cls = some m.cls := findClass_of_methodNamed B.named
  have hD := hD0.self (sz := sz)
  have hA : ∀ q : Nat, s.heap.size ≤ q → va_A (Wd u) sz q := fun q h => Or.inr (hsz ▸ h)
  have hl := lv_entry av (n := maxL) hav
  rw [lg_entry_eq]
  exact body p e s m below meth c _ hsz ⟨B.exec, B.bytes, hml, hown, hts⟩ B.returns B.notSynchronized hK hN hP hD hA hl
theorem ctI_intro {σ : Type} {l : Launch} {G : va_G} {tys : List (ClassId × FieldType)} {Wd : σ → va_W} {y : MethodName} {ws ws' : List Cond} {rm : Nat × Nat} {av : List Value} {u : σ} {post : Int32 → σ → Prop} {cc : ByteArray} {maxL : Nat} {ty : FieldType}
    (hy : plainName y.cls = true) (hw : ws = Cond.code y cc maxL (some ty) :: ws') (hav : (lg_sl av).length ≤ maxL)
    (body : ∀ (p : Program) (e : Env) (s : State) (m : MethodId) (below : List Frame) (meth : Method) (c : Code) (ls : Array Slot) (Aa : Nat → Prop) (Q : State → Prop), CallFix p m c cc maxL s av.toArray ws y.cls → va_K G vwCl tys s → nwOK s → va_P G vwCl (Wd u) s.heap → va_D Aa (Wd u) → va_S Aa s.heap s.heap [] → (∀ q, s.heap.size ≤ q → Aa q) → lv_has ls maxL (lv_args 0 av) →
      (∀ (pc : Nat) (ls : Array Slot) (H : Heap) (locs : List Loc) (v : Int32) (u' : σ), decode cc pc = .ok (.ireturn, 1) → narrow ty (.int v) = .int v → post v u' → va_P G vwCl (Wd u') H → va_D Aa (Wd u') → va_S Aa s.heap H locs → W p l e (ctR rm) s m av.toArray below meth c H locs 0 0 Q (F0 m pc ls [.int v])) →
      W p l e (ctR rm) s m av.toArray below meth c s.heap [] 0 0 Q (F0 m 0 ls [])) : ctI l G tys Wd y ws rm av u post := by
  intro sz
  refine ct_head (cc := cc) (maxL := maxL) (ret := some ty) hy hw hav ?_
  intro p e s m below meth c ls hsz F hr hlocks hK hN hP hD hA hl
  refine body p e s m below meth c ls (va_A (Wd u) sz) _ F hK hN hP hD va_S.rf hA hl ?_
  intro pc ls H locs v u' hd hn hp hP hD hS
  exact W.zret F.1 F.2.1 hr hn (fun t ht hW => ⟨⟨v, u', rfl, hp, by rw [ht]; exact hP, va_K.moved hW.alike hK, hD⟩, hS.F ht⟩) hS.2.2 hd hlocks
theorem ctL_intro {σ : Type} {l : Launch} {G : va_G} {tys : List (ClassId × FieldType)} {Wd : σ → va_W} {y : MethodName} {ws ws' : List Cond} {rm : Nat × Nat} {av : List Value} {u : σ} {post : Int64 → σ → Prop} {cc : ByteArray} {maxL : Nat}
    (hy : plainName y.cls = true) (hw : ws = Cond.code y cc maxL (some .long) :: ws') (hav : (lg_sl av).length ≤ maxL)
    (body : ∀ (p : Program) (e : Env) (s : State) (m : MethodId) (below : List Frame) (meth : Method) (c : Code) (ls : Array Slot) (Aa : Nat → Prop) (Q : State → Prop), CallFix p m c cc maxL s av.toArray ws y.cls → va_K G vwCl tys s → nwOK s → va_P G vwCl (Wd u) s.heap → va_D Aa (Wd u) → va_S Aa s.heap s.heap [] → (∀ q, s.heap.size ≤ q → Aa q) → lv_has ls maxL (lv_args 0 av) →
      (∀ (pc : Nat) (ls : Array Slot) (H : Heap) (locs : List Loc) (v : Int64) (u' : σ), decode cc pc = .ok (.lreturn, 1) → post v u' → va_P G vwCl (Wd u') H → va_D Aa (Wd u') → va_S Aa s.heap H locs → W p l e (ctR rm) s m av.toArray below meth c H locs 0 0 Q (F0 m pc ls [.long v])) →
      W p l e (ctR rm) s m av.toArray below meth c s.heap [] 0 0 Q (F0 m 0 ls [])) : ctL l G tys Wd y ws rm av u post := by
  intro sz
  refine ct_head (cc := cc) (maxL := maxL) (ret := some .long) hy hw hav ?_
  intro p e s m below meth c ls hsz F hr hlocks hK hN hP hD hA hl
  refine body p e s m below meth c ls (va_A (Wd u) sz) _ F hK hN hP hD va_S.rf hA hl ?_
  intro pc ls H locs v u' hd hp hP hD hS
  exact W.lret F.1 F.2.1 hr (fun t ht hW => ⟨⟨v, u', rfl, hp, by rw [ht]; exact hP, va_K.moved hW.alike hK, hD⟩, hS.F ht⟩) hS.2.2 hd hlocks
theorem ctV_intro {σ : Type} {l : Launch} {G : va_G} {tys : List (ClassId × FieldType)} {Wd : σ → va_W} {y : MethodName} {ws ws' : List Cond} {rm : Nat × Nat} {av : List Value} {u : σ} {post : σ → Prop} {cc : ByteArray} {maxL : Nat}
    (hy : plainName y.cls = true) (hw : ws = Cond.code y cc maxL none :: ws') (hav : (lg_sl av).length ≤ maxL)
    (body : ∀ (p : Program) (e : Env) (s : State) (m : MethodId) (below : List Frame) (meth : Method) (c : Code) (ls : Array Slot) (Aa : Nat → Prop) (Q : State → Prop), CallFix p m c cc maxL s av.toArray ws y.cls → va_K G vwCl tys s → nwOK s → va_P G vwCl (Wd u) s.heap → va_D Aa (Wd u) → va_S Aa s.heap s.heap [] → (∀ q, s.heap.size ≤ q → Aa q) → lv_has ls maxL (lv_args 0 av) →
      (∀ (pc : Nat) (ls : Array Slot) (H : Heap) (locs : List Loc) (u' : σ), decode cc pc = .ok (.return_, 1) → post u' → va_P G vwCl (Wd u') H → va_D Aa (Wd u') → va_S Aa s.heap H locs → W p l e (ctR rm) s m av.toArray below meth c H locs 0 0 Q (F0 m pc ls [])) →
      W p l e (ctR rm) s m av.toArray below meth c s.heap [] 0 0 Q (F0 m 0 ls [])) : ctV l G tys Wd y ws rm av u post := by
  intro sz
  refine ct_head (cc := cc) (maxL := maxL) (ret := none) hy hw hav ?_
  intro p e s m below meth c ls hsz F hr hlocks hK hN hP hD hA hl
  refine body p e s m below meth c ls (va_A (Wd u) sz) _ F hK hN hP hD va_S.rf hA hl ?_
  intro pc ls H locs u' hd hp hP hD hS
  exact W.vret F.1 F.2.1 hr (fun t ht hW => ⟨⟨u', rfl, hp, by rw [ht]; exact hP, va_K.moved hW.alike hK, hD⟩, hS.F ht⟩) hS.2.2 hd hlocks
theorem ct_free {A0 : Nat → Prop} {ws : va_W} {H0 H : Heap} {locs : List Loc} (hD : va_D A0 ws) (hS : va_S A0 H0 H locs) (hA : ∀ q, H0.size ≤ q → A0 q) : ∀ q, va_A ws H.size q → A0 q := by
  rintro q (⟨k, e, hk⟩ | hq)
  · exact hD.2 k _ hk
  · exact hA q (Nat.le_trans hS.1 hq)
theorem ct_blind {σ : Type} {G : va_G} {tys : List (ClassId × FieldType)} {Wd : σ → va_W} {av : List Value} {u : σ} {sz : Nat} : FrameBlind (ctP G tys Wd av u sz) := by
  intro a U g mk q
  obtain ⟨q0, q1, qP, qK, qD, qN⟩ := q
  exact ⟨q0, q1, qP, va_K.moved (u := U) (U := U.calling g mk a) (Vm.Alike.refl U.vm) qK, qD, nwOK.same (s := U) (U := U.calling g mk a) rfl qN⟩
theorem ct_preS {σ : Type} {G : va_G} {tys : List (ClassId × FieldType)} {Wd : σ → va_W} {As : List Value} {u : σ} {s : State} {H : Heap} {A : Nat → Prop} (hK : va_K G vwCl tys s) (hN : nwOK s) (hP : va_P G vwCl (Wd u) H) (hD : va_D A (Wd u)) : PreS s H (ctP G tys Wd As u H.size) As :=
  ⟨ct_blind, fun U hU hW => ⟨rfl, by rw [hU], by rw [hU]; exact hP, va_K.moved hW.alike hK, hD.weaken (fun _ _ _ _ => trivial), nwOK.moved hW hN⟩⟩
theorem ct_preV {σ : Type} {G : va_G} {tys : List (ClassId × FieldType)} {Wd : σ → va_W} {As : List Value} {u : σ} {s : State} {H : Heap} {A : Nat → Prop} {C : String} {T : u_T} {NN b : Nat} {fs : List Value} (q0 ci : Nat) (hK : va_K G vwCl tys s) (hN : nwOK s) (hP : va_P G vwCl (Wd u) H) (hD : va_D A (Wd u)) (hc : vwCl[ci]? = some (C, T, NN)) (he : (Wd u)[q0]? = some (b, .inr (ci, fs))) : PreV s H C b (ctP G tys Wd (.ref b :: As) u H.size) As :=
  ⟨ct_blind, va_recv hK hP hc he, fun U hU hW => ⟨rfl, by rw [hU], by rw [hU]; exact hP, va_K.moved hW.alike hK, hD.weaken (fun _ _ _ _ => trivial), nwOK.moved hW hN⟩⟩
section CT
variable {p : Program} {l : Launch} {e : Env} {R : Room} {s : State} {m : MethodId} {args : Array Value} {below : List Frame} {meth : Method} {c : Code} {H : Heap} {locs : List Loc} {cells slots : Nat} {Q : State → Prop} {pc : Nat} {ls : Array Slot} {st0 rest : List Value} {A : Nat → Prop} {H0 : Heap} {a : Array Value}
theorem ct_calli {σ : Type} {G : va_G} {tys : List (ClassId × FieldType)} {Wd : σ → va_W} {u : σ} {post : Int32 → σ → Prop}
    (hD : va_D A (Wd u)) (hS : va_S A H0 H locs) (hA : ∀ q, H0.size ≤ q → A q)
    (hr : va_Run p l e R s m args below meth c H locs cells slots 0 0 (F0 m pc ls st0) rest (va_Qi post (ctB G tys Wd (va_A (Wd u) H.size)) (va_A (Wd u) H.size) a) (va_A (Wd u) H.size))
    (kk : ∀ (r : Int32) (u' : σ) (H1 : Heap) (locs1 : List Loc), post r u' → va_P G vwCl (Wd u') H1 → va_D A (Wd u') → va_S A H0 H1 locs1 → W p l e R s m args below meth c H1 locs1 cells slots Q (F0 m (pc + 3) ls (.int r :: rest))) : W p l e R s m args below meth c H locs cells slots Q (F0 m pc ls st0) := by
  have hF := ct_free hD hS hA
  refine va_calli hr hS (fun q _ h => hF q h) hF (fun r u1 t H1 locs1 ht hvm hw hB hz1 hk1 hS1 => ?_)
  obtain ⟨hP1, hK1, hD1⟩ := hB
  rw [ht] at hP1
  exact kk r u1 H1 locs1 hw hP1 (hD1.weaken (fun k q h _ => hF _ (by first | exact hD1.2 k q h | assumption))) hS1
theorem ct_calll {σ : Type} {G : va_G} {tys : List (ClassId × FieldType)} {Wd : σ → va_W} {u : σ} {post : Int64 → σ → Prop}
    (hD : va_D A (Wd u)) (hS : va_S A H0 H locs) (hA : ∀ q, H0.size ≤ q → A q)
    (hr : va_Run p l e R s m args below meth c H locs cells slots 0 0 (F0 m pc ls st0) rest (va_Ql post (ctB G tys Wd (va_A (Wd u) H.size)) (va_A (Wd u) H.size) a) (va_A (Wd u) H.size))
    (kk : ∀ (r : Int64) (u' : σ) (H1 : Heap) (locs1 : List Loc), post r u' → va_P G vwCl (Wd u') H1 → va_D A (Wd u') → va_S A H0 H1 locs1 → W p l e R s m args below meth c H1 locs1 cells slots Q (F0 m (pc + 3) ls (.long r :: rest))) : W p l e R s m args below meth c H locs cells slots Q (F0 m pc ls st0) := by
  have hF := ct_free hD hS hA
  refine va_calll hr hS (fun q _ h => hF q h) hF (fun r u1 t H1 locs1 ht hvm hw hB hz1 hk1 hS1 => ?_)
  obtain ⟨hP1, hK1, hD1⟩ := hB
  rw [ht] at hP1
  exact kk r u1 H1 locs1 hw hP1 (hD1.weaken (fun k q h _ => hF _ (by first | exact hD1.2 k q h | assumption))) hS1
theorem ct_callv {σ : Type} {G : va_G} {tys : List (ClassId × FieldType)} {Wd : σ → va_W} {u : σ} {post : σ → Prop}
    (hD : va_D A (Wd u)) (hS : va_S A H0 H locs) (hA : ∀ q, H0.size ≤ q → A q)
    (hr : va_Run p l e R s m args below meth c H locs cells slots 0 0 (F0 m pc ls st0) rest (va_Qv post (ctB G tys Wd (va_A (Wd u) H.size)) (va_A (Wd u) H.size) a) (va_A (Wd u) H.size))
    (kk : ∀ (u' : σ) (H1 : Heap) (locs1 : List Loc), post u' → va_P G vwCl (Wd u') H1 → va_D A (Wd u') → va_S A H0 H1 locs1 → W p l e R s m args below meth c H1 locs1 cells slots Q (F0 m (pc + 3) ls rest)) : W p l e R s m args below meth c H locs cells slots Q (F0 m pc ls st0) := by
  have hF := ct_free hD hS hA
  refine va_callv hr hS (fun q _ h => hF q h) hF (fun u1 t H1 locs1 ht hvm hw hB hz1 hk1 hS1 => ?_)
  obtain ⟨hP1, hK1, hD1⟩ := hB
  rw [ht] at hP1
  exact kk u1 H1 locs1 hw hP1 (hD1.weaken (fun k q h _ => hF _ (by first | exact hD1.2 k q h | assumption))) hS1
end CT
-- the worlds
abbrev sgM : Type := (Nat → Int32) × (Nat → Nat → Int32) × (Nat → Nat → Int64)
abbrev sgH : Type := (Nat → Int32) × (Nat → Nat → Int32) × (Nat → Nat → Int64) × (Nat → Nat → Int32) × (Nat → Nat → Int64)
abbrev aI (c : ClassId) (n : Nat) (f : Nat → Int32) : va_E := .inl (c, n, .inl f)
abbrev aJ (c : ClassId) (n : Nat) (f : Nat → Int64) : va_E := .inl (c, n, .inr (.inl f))
abbrev MW (cI cJ cZ : ClassId) (R : Nat → Nat) (u : sgM) : va_W :=
  [(R 0, .inr (8, [.int (u.1 0), .int (u.1 1), .int (u.1 2), .ref (R 3), .ref (R 4), .ref (R 5), .ref (R 6), .int (u.1 7), .ref (R 8), .ref (R 9), .int (u.1 10), .ref (R 11), .ref (R 12), .ref (R 13), .ref (R 14), .ref (R 15), .int (u.1 16), .ref (R 17), .ref (R 18), .ref (R 19)])),
   (R 3, aI cI 40 (u.2.1 3)), (R 4, aI cI 40 (u.2.1 4)), (R 5, aI cI 40 (u.2.1 5)), (R 6, aJ cJ 64 (u.2.2 6)), (R 8, aI cI 16 (u.2.1 8)), (R 9, aJ cJ 16 (u.2.2 9)), (R 11, aJ cJ 40 (u.2.2 11)), (R 12, aI cI 40 (u.2.1 12)), (R 13, aJ cJ 16384 (u.2.2 13)), (R 14, aJ cJ 16384 (u.2.2 14)), (R 15, aJ cJ 64 (u.2.2 15)), (R 17, aJ cJ 256 (u.2.2 17)), (R 18, aI cI 16 (u.2.1 18)), (R 19, aI cZ 16 (u.2.1 19))]
abbrev gO (R : Nat → Nat) (b : Nat) : Nat → Option Nat := fun i => if i < 16 then some (R (b + i)) else none
abbrev aO (c : ClassId) (n : Nat) (g : Nat → Option Nat) : va_E := .inl (c, n, .inr (.inr (.inr (.inr g))))
abbrev HW (cI cJ cII cJJ : ClassId) (R : Nat → Nat) (u : sgH) : va_W :=
  [(R 0, .inr (7, [.ref (R 1), .ref (R 5), .ref (R 7), .ref (R 10), .ref (R 13), .ref (R 18), .ref (R 19), .ref (R 20)])),
   (R 1, .inr (2, [.int (u.1 0), .int (u.1 1), .ref (R 2), .ref (R 3), .ref (R 4)])), (R 2, aI cI 40 (u.2.1 2)), (R 3, aI cI 40 (u.2.1 3)), (R 4, aI cI 40 (u.2.1 4)),
   (R 5, .inr (5, [.int (u.1 2), .int (u.1 3), .ref (R 6)])), (R 6, aJ cJ 40 (u.2.2.1 6)),
   (R 7, .inr (3, [.int (u.1 4), .int (u.1 5), .ref (R 8), .ref (R 9)])), (R 8, aI cI 16 (u.2.1 8)), (R 9, aJ cJ 16 (u.2.2.1 9)),
   (R 10, .inr (6, [.ref (R 11), .ref (R 12)])), (R 11, aJ cJ 16 (u.2.2.1 11)), (R 12, aJ cJ 16 (u.2.2.1 12)),
   (R 13, .inr (4, [.int (u.1 6), .ref (R 14), .ref (R 15), .int (u.1 7), .ref (R 16), .ref (R 17)])), (R 14, aJ cJ 14 (u.2.2.1 14)), (R 15, aJ cJ 14 (u.2.2.1 15)), (R 16, aJ cJ 640 (u.2.2.1 16)), (R 17, aJ cJ 640 (u.2.2.1 17)),
   (R 18, .inr (1, [.ref (R 21)])), (R 19, .inr (0, [.ref (R 22)])), (R 20, aJ cJ 14 (u.2.2.1 20)), (R 21, aO cJJ 16 (gO R 100)), (R 22, aO cII 16 (gO R 200))]
  ++ ((List.range 16).map (fun i => (R (100 + i), aJ cJ 16 (u.2.2.2.2 i))) ++ (List.range 16).map (fun i => (R (200 + i), aI cI 16 (u.2.2.2.1 i))))
abbrev tyL (cI cJ cZ cII cJJ : ClassId) : List (ClassId × FieldType) := [(cI, .int), (cJ, .long), (cZ, .boolean), (cII, .array .int), (cJJ, .array .long)]
end
section
theorem up_self {α : Type} {f : Nat → α} {k : Nat} {v : α} : va_up f k v k = v := if_pos rfl
theorem up_ne {α : Type} {f : Nat → α} {k j : Nat} {v : α} (h : j ≠ k) : va_up f k v j = f j := if_neg h
-- sets of edges as numbers (bit e for edge e); parities, cuts, and the joining of edges
def xs : Nat → (Nat → Bool) → Bool
  | 0, _ => false
  | n + 1, f => xs n f ^^ f n
theorem xs_congr {n : Nat} {f g : Nat → Bool} (h : ∀ i, i < n → f i = g i) : xs n f = xs n g := by
  induction n with
  | zero => rfl
  | succ n ih => simp only [xs]; rw [ih (fun i hi => h i (by omega)), h n (by omega)]
theorem xs_xor (n : Nat) (f g : Nat → Bool) : xs n (fun i => f i ^^ g i) = (xs n f ^^ xs n g) := by
  induction n with
  | zero => rfl
  | succ n ih => simp only [xs]; rw [ih]; cases xs n f <;> cases xs n g <;> cases f n <;> cases g n <;> rfl
theorem xs_false (n : Nat) {f : Nat → Bool} (h : ∀ i, i < n → f i = false) : xs n f = false := by
  induction n with
  | zero => rfl
  | succ n ih => simp only [xs]; rw [ih (fun i hi => h i (by omega)), h n (by omega)]; rfl
theorem xs_one {n a : Nat} (ha : a < n) (f : Nat → Bool) (h : ∀ i, i < n → i ≠ a → f i = false) : xs n f = f a := by
  induction n with
  | zero => omega
  | succ n ih =>
    simp only [xs]
    by_cases e : a = n
    · subst e; rw [xs_false _ (fun i hi => h i (by omega) (by omega))]; cases f a <;> rfl
    · rw [ih (by omega) (fun i hi hne => h i (by omega) hne), h n (by omega) (by omega)]; cases f a <;> rfl
/-- how many ends at v, of the edges below 64 of a set, taken modulo two -/
def bd (fr to : Nat → Nat) (s v : Nat) : Bool := xs 64 (fun e => s.testBit e && ((fr e == v) ^^ (to e == v)))
/-- how many edges of a set cross S, modulo two -/
def cr (fr to : Nat → Nat) (s : Nat) (S : Nat → Bool) : Bool := xs 64 (fun e => s.testBit e && (S (fr e) ^^ S (to e)))
theorem bd_zero (fr to : Nat → Nat) (v : Nat) : bd fr to 0 v = false := xs_false _ (fun i _ => by simp)
theorem bd_xor (fr to : Nat → Nat) (s t v : Nat) : bd fr to (s ^^^ t) v = (bd fr to s v ^^ bd fr to t v) := by
  unfold bd
  rw [← xs_xor]
  refine xs_congr (fun i _ => ?_)
  rw [Nat.testBit_xor]
  cases s.testBit i <;> cases t.testBit i <;> cases ((fr i == v) ^^ (to i == v)) <;> rfl
theorem bd_pow {fr to : Nat → Nat} {e : Nat} (he : e < 64) (v : Nat) : bd fr to (2 ^ e) v = ((fr e == v) ^^ (to e == v)) := by
  unfold bd
  rw [xs_one he]
  · rw [Nat.testBit_two_pow_self]; simp
  · intro i _ hne
    rw [Nat.testBit_two_pow_of_ne (fun h => hne h.symm)]; rfl
theorem cr_xor (fr to : Nat → Nat) (s t : Nat) (S : Nat → Bool) : cr fr to (s ^^^ t) S = (cr fr to s S ^^ cr fr to t S) := by
  unfold cr
  rw [← xs_xor]
  refine xs_congr (fun i _ => ?_)
  rw [Nat.testBit_xor]
  cases s.testBit i <;> cases t.testBit i <;> cases (S (fr i) ^^ S (to i)) <;> rfl
theorem xs_pick {N a : Nat} (ha : a < N) (S : Nat → Bool) : xs N (fun v => S v && (a == v)) = S a := by
  rw [xs_one ha]
  · simp
  · intro i _ hne
    have : (a == i) = false := by simp; omega
    simp [this]
theorem xs_and (N : Nat) (b : Bool) (f : Nat → Bool) : xs N (fun v => b && f v) = (b && xs N f) := by
  induction N with
  | zero => cases b <;> rfl
  | succ n ih => simp only [xs]; rw [ih]; cases b <;> cases xs n f <;> cases f n <;> rfl
theorem xs_swap (m N : Nat) (f : Nat → Nat → Bool) : xs m (fun e => xs N (fun v => f e v)) = xs N (fun v => xs m (fun e => f e v)) := by
  induction m with
  | zero => simp only [xs]; exact (xs_false _ (fun _ _ => rfl)).symm
  | succ m ih => simp only [xs]; rw [ih, ← xs_xor]
/-- crossing, by the ends inside -/
theorem cr_bd {fr to : Nat → Nat} {N s : Nat} (hN : ∀ e, s.testBit e = true → fr e < N ∧ to e < N) (S : Nat → Bool) : cr fr to s S = xs N (fun v => S v && bd fr to s v) := by
  unfold cr bd
  have h1 : xs N (fun v => S v && xs 64 (fun e => s.testBit e && ((fr e == v) ^^ (to e == v)))) = xs N (fun v => xs 64 (fun e => S v && (s.testBit e && ((fr e == v) ^^ (to e == v))))) := xs_congr (fun v _ => (xs_and _ _ _).symm)
  rw [h1, ← xs_swap]
  refine xs_congr (fun e _ => ?_)
  cases hb : s.testBit e with
  | false => simp only [Bool.false_and, Bool.and_false]; exact (xs_false _ (fun _ _ => rfl)).symm
  | true =>
    obtain ⟨ha, hb'⟩ := hN e hb
    have h2 : xs N (fun v => S v && (true && ((fr e == v) ^^ (to e == v)))) = xs N (fun v => (S v && (fr e == v)) ^^ (S v && (to e == v))) := xs_congr (fun v _ => by cases S v <;> cases (fr e == v) <;> cases (to e == v) <;> rfl)
    rw [h2, xs_xor, xs_pick ha, xs_pick hb']; rfl
theorem cr_even {fr to : Nat → Nat} {N s : Nat} (hN : ∀ e, s.testBit e = true → fr e < N ∧ to e < N) (h : ∀ v, bd fr to s v = false) (S : Nat → Bool) : cr fr to s S = false := by
  rw [cr_bd hN]
  exact xs_false _ (fun v _ => by rw [h v]; simp)
theorem cr_ends {fr to : Nat → Nat} {N s a b : Nat} (hN : ∀ e, s.testBit e = true → fr e < N ∧ to e < N) (ha : a < N) (hb : b < N) (h : ∀ v, bd fr to s v = ((a == v) ^^ (b == v))) (S : Nat → Bool) : cr fr to s S = (S a ^^ S b) := by
  rw [cr_bd hN]
  have h2 : xs N (fun v => S v && bd fr to s v) = xs N (fun v => (S v && (a == v)) ^^ (S v && (b == v))) := xs_congr (fun v _ => by rw [h v]; cases S v <;> cases (a == v) <;> cases (b == v) <;> rfl)
  rw [h2, xs_xor, xs_pick ha, xs_pick hb]
/-- groups' names, ways, how many rings closed so far, the rings, their closing edges -/
abbrev JS : Type := (Nat → Nat) × (Nat → Nat) × Nat × (Nat → Nat) × (Nat → Nat)
def j0 : JS := (fun v => v, fun _ => 0, 0, fun _ => 0, fun _ => 0)
def jr (q : JS) (a b e : Nat) : Nat := q.2.1 a ^^^ q.2.1 b ^^^ 2 ^ e
def jStep (a b e : Nat) (q : JS) : JS :=
  if q.1 a = q.1 b then (q.1, q.2.1, q.2.2.1 + 1, va_up q.2.2.2.1 q.2.2.1 (jr q a b e), va_up q.2.2.2.2 q.2.2.1 e)
  else (fun v => if q.1 v = q.1 b then q.1 a else q.1 v, fun v => if q.1 v = q.1 b then q.2.1 v ^^^ jr q a b e else q.2.1 v, q.2.2.1, q.2.2.2.1, q.2.2.2.2)
def jRun (fr to : Nat → Nat) (s : Nat) : Nat → JS
  | 0 => j0
  | k + 1 => if s.testBit k then jStep (fr k) (to k) k (jRun fr to s k) else jRun fr to s k
/-- what holds of the joining of the edges below k of a set s, among vertices below N -/
def jOK (fr to : Nat → Nat) (N s k : Nat) (q : JS) : Prop :=
  (∀ v, v < N → q.1 v < N) ∧
  (∀ v, v < N → ∀ x, bd fr to (q.2.1 v) x = ((v == x) ^^ (q.1 v == x))) ∧
  (∀ v, v < N → ∀ e, (q.2.1 v).testBit e = true → e < k ∧ s.testBit e = true ∧ ∀ i, i < q.2.2.1 → q.2.2.2.2 i ≠ e) ∧
  (∀ e, e < k → s.testBit e = true → q.1 (fr e) = q.1 (to e)) ∧
  (∀ i, i < q.2.2.1 → q.2.2.2.2 i < k ∧ s.testBit (q.2.2.2.2 i) = true ∧ (∀ x, bd fr to (q.2.2.2.1 i) x = false) ∧ (∀ e, (q.2.2.2.1 i).testBit e = true → e < k ∧ s.testBit e = true) ∧ ∀ j, j < q.2.2.1 → (q.2.2.2.1 i).testBit (q.2.2.2.2 j) = (i == j)) ∧
  (∀ z, (∀ x, bd fr to z x = false) → (∀ e, z.testBit e = true → e < k ∧ s.testBit e = true ∧ ∀ i, i < q.2.2.1 → q.2.2.2.2 i ≠ e) → z = 0)
theorem bne_of {a b : Nat} (h : a ≠ b) : (a == b) = false := by simp [h]
theorem jOK0 (fr to : Nat → Nat) (N s : Nat) : jOK fr to N s 0 j0 := by
  refine ⟨fun v h => h, fun v _ x => ?_, fun v _ e h => ?_, fun e h => by omega, fun i h => absurd h (Nat.not_lt_zero _), fun z _ h => ?_⟩
  · show bd fr to 0 x = ((v == x) ^^ (v == x))
    rw [bd_zero]; cases (v == x) <;> rfl
  · have h : (0 : Nat).testBit e = true := h
    rw [Nat.zero_testBit] at h; cases h
  · refine Nat.eq_of_testBit_eq (fun i => ?_)
    rw [Nat.zero_testBit]
    cases hz : z.testBit i with
    | false => rfl
    | true => exact absurd (h i hz).1 (Nat.not_lt_zero _)
theorem jOK_skip {fr to : Nat → Nat} {N s k : Nat} {q : JS} (h : jOK fr to N s k q) (hs : s.testBit k = false) : jOK fr to N s (k + 1) q := by
  obtain ⟨h1, h2, h3, h4, h5, h6⟩ := h
  have hne : ∀ e, s.testBit e = true → e < k + 1 → e < k := by
    intro e he hlt
    rcases Nat.lt_or_ge e k with q | q
    · exact q
    · have : e = k := by omega
      subst this; rw [hs] at he; cases he
  refine ⟨h1, h2, fun v hv e he => ?_, fun e he hb => h4 e (hne e hb he) hb, fun i hi => ?_, fun z hz hb => h6 z hz (fun e he => ?_)⟩
  · obtain ⟨a, b, c⟩ := h3 v hv e he; exact ⟨by omega, b, c⟩
  · obtain ⟨a, b, c, d, e⟩ := h5 i hi
    exact ⟨by omega, b, c, fun e he => ⟨by have := (d e he).1; omega, (d e he).2⟩, e⟩
  · obtain ⟨a, b, c⟩ := hb e he; exact ⟨hne e b a, b, c⟩
theorem jr_bit {q : JS} {a b k e : Nat} (h : (jr q a b k).testBit e = true) : (q.2.1 a).testBit e = true ∨ (q.2.1 b).testBit e = true ∨ e = k := by
  unfold jr at h
  rw [Nat.testBit_xor, Nat.testBit_xor] at h
  by_cases hk : e = k
  · exact Or.inr (Or.inr hk)
  · rw [Nat.testBit_two_pow_of_ne (fun h => hk h.symm)] at h
    cases ha : (q.2.1 a).testBit e with
    | true => exact Or.inl rfl
    | false =>
      cases hb : (q.2.1 b).testBit e with
      | true => exact Or.inr (Or.inl rfl)
      | false => rw [ha, hb] at h; cases h
theorem jr_not {q : JS} {a b k e : Nat} (ha : (q.2.1 a).testBit e = false) (hb : (q.2.1 b).testBit e = false) : (jr q a b k).testBit e = (k == e) := by
  unfold jr
  rw [Nat.testBit_xor, Nat.testBit_xor, ha, hb]
  by_cases hk : k = e
  · subst hk; rw [Nat.testBit_two_pow_self]; simp
  · rw [Nat.testBit_two_pow_of_ne hk, bne_of hk]; rfl
theorem jr_bd {fr to : Nat → Nat} {N s k : Nat} {q : JS} (h : jOK fr to N s k q) (hk : k < 64) (ha : fr k < N) (hb : to k < N) (x : Nat) : bd fr to (jr q (fr k) (to k) k) x = ((q.1 (fr k) == x) ^^ (q.1 (to k) == x)) := by
  unfold jr
  rw [bd_xor, bd_xor, bd_pow hk, h.2.1 _ ha, h.2.1 _ hb]
  cases (fr k == x) <;> cases (to k == x) <;> cases (q.1 (fr k) == x) <;> cases (q.1 (to k) == x) <;> rfl
theorem bool_f {x : Bool} (h : ¬ x = true) : x = false := by cases x; rfl; exact absurd rfl h
theorem jOK_close {fr to : Nat → Nat} {N s k : Nat} {q : JS} (h : jOK fr to N s k q) (hk : k < 64) (ha : fr k < N) (hb : to k < N) (hs : s.testBit k = true) (hg : q.1 (fr k) = q.1 (to k)) : jOK fr to N s (k + 1) (jStep (fr k) (to k) k q) := by
  have hbd := jr_bd h hk ha hb
  obtain ⟨h1, h2, h3, h4, h5, h6⟩ := h
  have hwk : ∀ v, v < N → (q.2.1 v).testBit k = false := fun v hv => bool_f (fun e => absurd (h3 v hv k e).1 (Nat.lt_irrefl _))
  unfold jStep
  rw [if_pos hg]
  refine ⟨h1, h2, fun v hv e he => ?_, fun e he hb => ?_, fun i hi => ?_, fun z hz hb => h6 z hz (fun e he => ?_)⟩
  · obtain ⟨a, b, c⟩ := h3 v hv e he
    refine ⟨by omega, b, fun i hi => ?_⟩
    show va_up q.2.2.2.2 q.2.2.1 k i ≠ e
    by_cases hd : i = q.2.2.1
    · rw [hd, up_self]; omega
    · rw [up_ne hd]; exact c i (by have hi : i < q.2.2.1 + 1 := hi; omega)
  · rcases Nat.lt_or_ge e k with q' | q'
    · exact h4 e q' hb
    · have : e = k := by omega
      subst this; exact hg
  · have hi : i < q.2.2.1 + 1 := hi
    show va_up q.2.2.2.2 q.2.2.1 k i < k + 1 ∧ s.testBit (va_up q.2.2.2.2 q.2.2.1 k i) = true ∧ (∀ x, bd fr to (va_up q.2.2.2.1 q.2.2.1 (jr q (fr k) (to k) k) i) x = false) ∧ (∀ e, (va_up q.2.2.2.1 q.2.2.1 (jr q (fr k) (to k) k) i).testBit e = true → e < k + 1 ∧ s.testBit e = true) ∧ ∀ j, j < q.2.2.1 + 1 → (va_up q.2.2.2.1 q.2.2.1 (jr q (fr k) (to k) k) i).testBit (va_up q.2.2.2.2 q.2.2.1 k j) = (i == j)
    by_cases hd : i = q.2.2.1
    · subst hd
      rw [up_self, up_self]
      refine ⟨by omega, hs, fun x => ?_, fun e he => ?_, fun j hj => ?_⟩
      · rw [hbd, hg]; cases (q.1 (to k) == x) <;> rfl
      · rcases jr_bit he with e1 | e1 | e1
        · exact ⟨by have := (h3 _ ha e e1).1; omega, (h3 _ ha e e1).2.1⟩
        · exact ⟨by have := (h3 _ hb e e1).1; omega, (h3 _ hb e e1).2.1⟩
        · subst e1; exact ⟨by omega, hs⟩
      · by_cases hd : j = q.2.2.1
        · subst hd
          rw [up_self, jr_not (hwk _ ha) (hwk _ hb)]; simp
        · rw [up_ne hd]
          have hj' : j < q.2.2.1 := by omega
          rw [jr_not (bool_f (fun e => (h3 _ ha _ e).2.2 j hj' rfl)) (bool_f (fun e => (h3 _ hb _ e).2.2 j hj' rfl)), bne_of (by have := (h5 j hj').1; omega), bne_of (by omega)]
    · have hi' : i < q.2.2.1 := by omega
      obtain ⟨a, b, c, d, e⟩ := h5 i hi'
      rw [up_ne hd, up_ne hd]
      refine ⟨by omega, b, c, fun e he => ⟨by have := (d e he).1; omega, (d e he).2⟩, fun j hj => ?_⟩
      by_cases hd2 : j = q.2.2.1
      · subst hd2
        rw [up_self, bne_of hd]
        exact bool_f (fun he => absurd (d k he).1 (Nat.lt_irrefl _))
      · rw [up_ne hd2]; exact e j (by omega)
  · obtain ⟨a, b, c⟩ := hb e he
    have hek : e ≠ k := by
      intro hh
      refine c q.2.2.1 (by show q.2.2.1 < q.2.2.1 + 1; omega) ?_
      show va_up q.2.2.2.2 q.2.2.1 k q.2.2.1 = e
      rw [up_self]; exact hh.symm
    refine ⟨by omega, b, fun i hi => ?_⟩
    have := c i (by show i < q.2.2.1 + 1; omega)
    have this : va_up q.2.2.2.2 q.2.2.1 k i ≠ e := this
    rw [up_ne (by omega)] at this; exact this
theorem jOK_join {fr to : Nat → Nat} {N s k : Nat} {q : JS} (h : jOK fr to N s k q) (hk : k < 64) (hN : ∀ e, e < k + 1 → s.testBit e = true → fr e < N ∧ to e < N) (hs : s.testBit k = true) (hg : q.1 (fr k) ≠ q.1 (to k)) : jOK fr to N s (k + 1) (jStep (fr k) (to k) k q) := by
  obtain ⟨ha, hb⟩ := hN k (by omega) hs
  have hbd := jr_bd h hk ha hb
  obtain ⟨h1, h2, h3, h4, h5, h6⟩ := h
  have hring : ∀ e, (jr q (fr k) (to k) k).testBit e = true → e < k + 1 ∧ s.testBit e = true ∧ ∀ i, i < q.2.2.1 → q.2.2.2.2 i ≠ e := by
    intro e he
    rcases jr_bit he with e1 | e1 | e1
    · obtain ⟨a, b, c⟩ := h3 _ ha e e1; exact ⟨by omega, b, c⟩
    · obtain ⟨a, b, c⟩ := h3 _ hb e e1; exact ⟨by omega, b, c⟩
    · subst e1; exact ⟨by omega, hs, fun i hi => by have := (h5 i hi).1; omega⟩
  unfold jStep
  rw [if_neg hg]
  refine ⟨fun v hv => ?_, fun v hv x => ?_, fun v hv e he => ?_, fun e he hbt => ?_, fun i hi => ?_, fun z hz hzb => ?_⟩
  · show (if q.1 v = q.1 (to k) then q.1 (fr k) else q.1 v) < N
    split
    · exact h1 _ ha
    · exact h1 _ hv
  · show bd fr to (if q.1 v = q.1 (to k) then q.2.1 v ^^^ jr q (fr k) (to k) k else q.2.1 v) x = ((v == x) ^^ ((if q.1 v = q.1 (to k) then q.1 (fr k) else q.1 v) == x))
    by_cases hv2 : q.1 v = q.1 (to k)
    · rw [if_pos hv2, if_pos hv2, bd_xor, h2 _ hv, hbd, hv2]
      cases (v == x) <;> cases (q.1 (fr k) == x) <;> cases (q.1 (to k) == x) <;> rfl
    · rw [if_neg hv2, if_neg hv2]; exact h2 _ hv x
  · have he : (if q.1 v = q.1 (to k) then q.2.1 v ^^^ jr q (fr k) (to k) k else q.2.1 v).testBit e = true := he
    show e < k + 1 ∧ s.testBit e = true ∧ ∀ i, i < q.2.2.1 → q.2.2.2.2 i ≠ e
    by_cases hv2 : q.1 v = q.1 (to k)
    · rw [if_pos hv2, Nat.testBit_xor] at he
      cases hw : (q.2.1 v).testBit e with
      | true => obtain ⟨a, b, c⟩ := h3 v hv e hw; exact ⟨by omega, b, c⟩
      | false => rw [hw, Bool.false_xor] at he; exact hring e he
    · rw [if_neg hv2] at he
      obtain ⟨a, b, c⟩ := h3 v hv e he; exact ⟨by omega, b, c⟩
  · show (if q.1 (fr e) = q.1 (to k) then q.1 (fr k) else q.1 (fr e)) = (if q.1 (to e) = q.1 (to k) then q.1 (fr k) else q.1 (to e))
    rcases Nat.lt_or_ge e k with q' | q'
    · rw [h4 e q' hbt]
    · have : e = k := by omega
      subst this; rw [if_neg hg, if_pos rfl]
  · obtain ⟨a, b, c, d, e⟩ := h5 i hi
    exact ⟨by show q.2.2.2.2 i < k + 1; omega, b, c, fun e he => ⟨by have := (d e he).1; omega, (d e he).2⟩, e⟩
  · have hzk : z.testBit k = false := by
      refine bool_f (fun hzk => ?_)
      have hc := cr_even (N := N) (fun e he => hN e (hzb e he).1 (hzb e he).2.1) hz (fun v => q.1 v == q.1 (to k))
      unfold cr at hc
      rw [xs_one hk] at hc
      · dsimp only at hc; rw [hzk, bne_of hg] at hc; simp at hc
      · intro i _ hne
        cases hi : z.testBit i with
        | false => rfl
        | true =>
          obtain ⟨a, b, c⟩ := hzb i hi
          dsimp only; rw [h4 i (by omega) b]; cases (q.1 (to i) == q.1 (to k)) <;> rfl
    refine h6 z hz (fun e he => ?_)
    obtain ⟨a, b, c⟩ := hzb e he
    refine ⟨?_, b, c⟩
    rcases Nat.lt_or_ge e k with q' | q'
    · exact q'
    · have : e = k := by omega
      subst this; rw [hzk] at he; cases he
/-- the joining, for every set and as far as one likes -/
theorem jOK_run {fr to : Nat → Nat} {N s : Nat} : ∀ k, k ≤ 64 → (∀ e, e < k → s.testBit e = true → fr e < N ∧ to e < N) → jOK fr to N s k (jRun fr to s k)
  | 0, _, _ => jOK0 fr to N s
  | k + 1, hk, hN => by
    have ih := jOK_run k (by omega) (fun e he => hN e (by omega))
    unfold jRun
    cases hs : s.testBit k with
    | false => exact jOK_skip ih hs
    | true =>
      rw [if_pos rfl]
      by_cases hg : (jRun fr to s k).1 (fr k) = (jRun fr to s k).1 (to k)
      · exact jOK_close ih (by omega) (hN k (by omega) hs).1 (hN k (by omega) hs).2 hs hg
      · exact jOK_join ih (by omega) hN hs hg
/-- the sum of those of the rings r 0 .. r (d - 1) whose bit is in c -/
def cb (r : Nat → Nat) : Nat → Nat → Nat
  | 0, _ => 0
  | i + 1, c => cb r i c ^^^ (if c.testBit i then r i else 0)
theorem cb_bit (r : Nat → Nat) (e : Nat) : ∀ d c, (cb r d c).testBit e = xs d (fun i => c.testBit i && (r i).testBit e)
  | 0, c => by simp [cb, xs]
  | d + 1, c => by
    simp only [cb, xs]
    rw [Nat.testBit_xor, cb_bit r e d c]
    cases c.testBit d <;> simp
theorem cb_bd (fr to : Nat → Nat) (r : Nat → Nat) (x : Nat) : ∀ d c, (∀ i, i < d → bd fr to (r i) x = false) → bd fr to (cb r d c) x = false
  | 0, c, _ => by simp only [cb]; exact bd_zero fr to x
  | d + 1, c, h => by
    simp only [cb]
    rw [bd_xor, cb_bd fr to r x d c (fun i hi => h i (by omega))]
    split
    · rw [h d (by omega)]; rfl
    · rw [bd_zero]; rfl
theorem cb_xor (r : Nat → Nat) : ∀ d a b, cb r d (a ^^^ b) = cb r d a ^^^ cb r d b
  | 0, a, b => by simp [cb]
  | d + 1, a, b => by
    refine Nat.eq_of_testBit_eq (fun e => ?_)
    rw [Nat.testBit_xor, cb_bit, cb_bit, cb_bit, ← xs_xor]
    refine xs_congr (fun i _ => ?_)
    rw [Nat.testBit_xor]
    cases a.testBit i <;> cases b.testBit i <;> cases (r i).testBit e <;> rfl
/-- the number whose bits below d are those of f -/
def nb (f : Nat → Bool) : Nat → Nat
  | 0 => 0
  | i + 1 => nb f i + (if f i then 2 ^ i else 0)
theorem nb_lt (f : Nat → Bool) : ∀ d, nb f d < 2 ^ d
  | 0 => by simp [nb]
  | d + 1 => by
    have := nb_lt f d
    simp only [nb]
    rw [Nat.pow_succ]
    split <;> omega
theorem nb_bit (f : Nat → Bool) : ∀ d i, (nb f d).testBit i = (decide (i < d) && f i)
  | 0, i => by simp [nb]
  | d + 1, i => by
    have hl := nb_lt f d
    simp only [nb]
    by_cases hi : i = d
    · subst hi
      have h0 : (nb f i).testBit i = false := Nat.testBit_lt_two_pow hl
      cases hf : f i with
      | false => simp [h0]
      | true =>
        rw [if_pos rfl, Nat.add_comm, Nat.testBit_two_pow_add_eq, h0]; simp
    · rcases Nat.lt_or_ge i d with hlt | hge
      · have h2 : (nb f d + (if f d then 2 ^ d else 0)).testBit i = (nb f d).testBit i := by
          split
          · rw [Nat.add_comm, Nat.testBit_two_pow_add_gt hlt]
          · rw [Nat.add_zero]
        rw [h2, nb_bit f d i]
        simp [hlt, Nat.lt_succ_of_lt hlt]
      · have h3 : nb f d + (if f d then 2 ^ d else 0) < 2 ^ i := by
          have : 2 ^ (d + 1) ≤ 2 ^ i := Nat.pow_le_pow_right (by omega) (by omega)
          rw [Nat.pow_succ] at this
          split <;> omega
        rw [Nat.testBit_lt_two_pow h3]
        simp; omega
/-- every even set within s is the sum of rings that its closing edges name -/
theorem jOK_span {fr to : Nat → Nat} {N s k : Nat} {q : JS} (h : jOK fr to N s k q) {z : Nat} (hz : ∀ x, bd fr to z x = false) (hb : ∀ e, z.testBit e = true → e < k ∧ s.testBit e = true) : z = cb q.2.2.2.1 q.2.2.1 (nb (fun i => z.testBit (q.2.2.2.2 i)) q.2.2.1) := by
  obtain ⟨h1, h2, h3, h4, h5, h6⟩ := h
  have hy := h6 (z ^^^ cb q.2.2.2.1 q.2.2.1 (nb (fun i => z.testBit (q.2.2.2.2 i)) q.2.2.1)) (fun x => by
    rw [bd_xor, hz x, cb_bd fr to _ x _ _ (fun i hi => (h5 i hi).2.2.1 x)]; rfl) (fun e he => by
    rw [Nat.testBit_xor, cb_bit] at he
    have hbit : e < k ∧ s.testBit e = true := by
      cases hze : z.testBit e with
      | true => exact hb e hze
      | false =>
        rw [hze, Bool.false_xor] at he
        have : ∃ i, i < q.2.2.1 ∧ (q.2.2.2.1 i).testBit e = true := by
          refine Classical.byContradiction (fun hn => ?_)
          rw [xs_false] at he
          · cases he
          · intro i hi
            cases hr : (q.2.2.2.1 i).testBit e with
            | false => simp
            | true => exact absurd ⟨i, hi, hr⟩ hn
        obtain ⟨i, hi, hr⟩ := this
        exact (h5 i hi).2.2.2.1 e hr
    refine ⟨hbit.1, hbit.2, fun j hj hje => ?_⟩
    subst hje
    rw [xs_one hj] at he
    · rw [nb_bit, (h5 j hj).2.2.2.2 j hj] at he
      simp [hj] at he
    · intro i hi hne
      rw [(h5 i hi).2.2.2.2 j hj, bne_of hne]; simp)
  have := congrArg (fun y => y ^^^ cb q.2.2.2.1 q.2.2.1 (nb (fun i => z.testBit (q.2.2.2.2 i)) q.2.2.1)) hy
  simpa [Nat.xor_assoc] using this
theorem jOK_code {fr to : Nat → Nat} {N s k : Nat} {q : JS} (h : jOK fr to N s k q) {c j : Nat} (hj : j < q.2.2.1) : (cb q.2.2.2.1 q.2.2.1 c).testBit (q.2.2.2.2 j) = c.testBit j := by
  rw [cb_bit, xs_one hj]
  · rw [(h.2.2.2.2.1 j hj).2.2.2.2 j hj]; simp
  · intro i hi hne
    rw [(h.2.2.2.2.1 i hi).2.2.2.2 j hj, bne_of hne]; simp
end
section
-- how many groups there are
def ct0 : Nat → (Nat → Bool) → Nat
  | 0, _ => 0
  | n + 1, f => ct0 n f + (if f n then 1 else 0)
theorem ct0_congr {n : Nat} {f g : Nat → Bool} (h : ∀ i, i < n → f i = g i) : ct0 n f = ct0 n g := by
  induction n with
  | zero => rfl
  | succ n ih => simp only [ct0]; rw [ih (fun i hi => h i (by omega)), h n (by omega)]
theorem ct0_le (n : Nat) (f : Nat → Bool) : ct0 n f ≤ n := by
  induction n with
  | zero => exact Nat.le_refl _
  | succ n ih => simp only [ct0]; split <;> omega
theorem ct0_drop {n a : Nat} {f g : Nat → Bool} (ha : a < n) (hf : f a = true) (hg : g a = false) (h : ∀ i, i < n → i ≠ a → g i = f i) : ct0 n g + 1 = ct0 n f := by
  induction n with
  | zero => omega
  | succ n ih =>
    simp only [ct0]
    by_cases e : a = n
    · subst e
      rw [ct0_congr (fun i hi => h i (by omega) (by omega)), hf, hg]; simp
    · have := ih (by omega) (fun i hi hne => h i (by omega) hne)
      rw [h n (by omega) (by omega)]; omega
theorem ct0_pos {n a : Nat} {f : Nat → Bool} (ha : a < n) (hf : f a = true) : 1 ≤ ct0 n f := by
  induction n with
  | zero => omega
  | succ n ih =>
    simp only [ct0]
    by_cases e : a = n
    · subst e; rw [hf]; simp
    · have := ih (by omega); omega
theorem ct0_true (n : Nat) {f : Nat → Bool} (h : ∀ i, i < n → f i = true) : ct0 n f = n := by
  induction n with
  | zero => rfl
  | succ n ih => simp only [ct0]; rw [ih (fun i hi => h i (by omega)), h n (by omega)]; rfl
theorem ct0_zero {n : Nat} {f : Nat → Bool} (h : ∀ i, i < n → f i = false) : ct0 n f = 0 := by
  induction n with
  | zero => rfl
  | succ n ih => simp only [ct0]; rw [ih (fun i hi => h i (by omega)), h n (by omega)]; rfl
/-- how many groups: the vertices that bear their group's name -/
def gc (N : Nat) (q : JS) : Nat := ct0 N (fun v => q.1 v == v)
/-- how many edges below k a set has -/
def sz (s k : Nat) : Nat := ct0 k (fun e => s.testBit e)
def jI (N : Nat) (q : JS) : Prop := ∀ v, v < N → q.1 v < N ∧ q.1 (q.1 v) = q.1 v
theorem jI0 (N : Nat) : jI N j0 := fun v hv => ⟨hv, rfl⟩
theorem jI_step {N a b e : Nat} {q : JS} (h : jI N q) (ha : a < N) (hb : b < N) : jI N (jStep a b e q) := by
  unfold jStep
  by_cases hg : q.1 a = q.1 b
  · rw [if_pos hg]; exact h
  · rw [if_neg hg]
    intro v hv
    show (if q.1 v = q.1 b then q.1 a else q.1 v) < N ∧ (if q.1 (if q.1 v = q.1 b then q.1 a else q.1 v) = q.1 b then q.1 a else q.1 (if q.1 v = q.1 b then q.1 a else q.1 v)) = (if q.1 v = q.1 b then q.1 a else q.1 v)
    by_cases hv2 : q.1 v = q.1 b
    · rw [if_pos hv2, (h a ha).2, if_neg hg]; exact ⟨(h a ha).1, rfl⟩
    · rw [if_neg hv2, (h v hv).2, if_neg hv2]; exact ⟨(h v hv).1, rfl⟩
theorem gc_close {N a b e : Nat} {q : JS} (hg : q.1 a = q.1 b) : gc N (jStep a b e q) = gc N q := by
  unfold jStep; rw [if_pos hg]; rfl
theorem gc_join {N a b e : Nat} {q : JS} (h : jI N q) (ha : a < N) (hb : b < N) (hg : q.1 a ≠ q.1 b) : gc N (jStep a b e q) + 1 = gc N q := by
  unfold jStep; rw [if_neg hg]
  refine ct0_drop (a := q.1 b) (h b hb).1 (by rw [(h b hb).2]; simp) ?_ (fun i hi hne => ?_)
  · show ((if q.1 (q.1 b) = q.1 b then q.1 a else q.1 (q.1 b)) == q.1 b) = false
    rw [if_pos (h b hb).2, bne_of hg]
  · show ((if q.1 i = q.1 b then q.1 a else q.1 i) == i) = (q.1 i == i)
    by_cases hi2 : q.1 i = q.1 b
    · rw [if_pos hi2, bne_of (fun h2 => ?_), bne_of (fun h2 => hne (by rw [← hi2]; exact h2.symm))]
      have := (h a ha).2
      rw [h2, hi2] at this; exact hg (by rw [h2, ← this])
    · rw [if_neg hi2]
theorem jI_run {fr to : Nat → Nat} {N s : Nat} : ∀ k, (∀ e, e < k → s.testBit e = true → fr e < N ∧ to e < N) → jI N (jRun fr to s k)
  | 0, _ => jI0 N
  | k + 1, hN => by
    have ih := jI_run k (fun e he => hN e (by omega))
    unfold jRun
    cases hs : s.testBit k with
    | false => exact ih
    | true => rw [if_pos rfl]; exact jI_step ih (hN k (by omega) hs).1 (hN k (by omega) hs).2
theorem jd_close {a b e : Nat} {q : JS} (hg : q.1 a = q.1 b) : (jStep a b e q).2.2.1 = q.2.2.1 + 1 := by unfold jStep; rw [if_pos hg]
theorem jd_join {a b e : Nat} {q : JS} (hg : q.1 a ≠ q.1 b) : (jStep a b e q).2.2.1 = q.2.2.1 := by unfold jStep; rw [if_neg hg]
/-- groups and rings: together as many as vertices and what was not joined -/
theorem gc_run {fr to : Nat → Nat} {N s : Nat} : ∀ k, (∀ e, e < k → s.testBit e = true → fr e < N ∧ to e < N) → gc N (jRun fr to s k) + sz s k = N + (jRun fr to s k).2.2.1
  | 0, _ => by
    show gc N j0 + 0 = N + 0
    unfold gc
    rw [ct0_true N (fun i _ => by show (i == i) = true; simp)]
  | k + 1, hN => by
    have ih := gc_run k (fun e he => hN e (by omega))
    have hi := jI_run (fr := fr) (to := to) (N := N) (s := s) k (fun e he => hN e (by omega))
    show gc N (if s.testBit k then jStep (fr k) (to k) k (jRun fr to s k) else jRun fr to s k) + (sz s k + (if s.testBit k then 1 else 0)) = N + (if s.testBit k then jStep (fr k) (to k) k (jRun fr to s k) else jRun fr to s k).2.2.1
    cases hs : s.testBit k with
    | false => simp; exact ih
    | true =>
      simp only [if_pos]
      by_cases hg : (jRun fr to s k).1 (fr k) = (jRun fr to s k).1 (to k)
      · rw [gc_close hg, jd_close hg]; omega
      · have := gc_join (e := k) hi (hN k (by omega) hs).1 (hN k (by omega) hs).2 hg
        rw [jd_join hg]; omega
theorem gc_pos {fr to : Nat → Nat} {N s k : Nat} (h0 : 0 < N) (hN : ∀ e, e < k → s.testBit e = true → fr e < N ∧ to e < N) : 1 ≤ gc N (jRun fr to s k) := by
  have h := jI_run (fr := fr) (to := to) (N := N) (s := s) k hN 0 h0
  exact ct0_pos h.1 (by rw [h.2]; simp)
theorem gc_le (N : Nat) (q : JS) : gc N q ≤ N := ct0_le _ _
theorem jd_le {fr to : Nat → Nat} {s : Nat} : ∀ k, (jRun fr to s k).2.2.1 ≤ sz s k
  | 0 => Nat.le_refl _
  | k + 1 => by
    have ih := jd_le (fr := fr) (to := to) (s := s) k
    show (if s.testBit k then jStep (fr k) (to k) k (jRun fr to s k) else jRun fr to s k).2.2.1 ≤ sz s k + (if s.testBit k then 1 else 0)
    cases hs : s.testBit k with
    | false => simpa using ih
    | true =>
      simp only [if_pos]
      by_cases hg : (jRun fr to s k).1 (fr k) = (jRun fr to s k).1 (to k)
      · rw [jd_close hg]; omega
      · rw [jd_join hg]; omega
theorem sz_le (s k : Nat) : sz s k ≤ k := ct0_le _ _
theorem jd_lt {fr to : Nat → Nat} {s k : Nat} : (jRun fr to s k).2.2.1 ≤ k := Nat.le_trans (jd_le k) (sz_le s k)
/-- all edges below m -/
abbrev fl (m : Nat) : Nat := 2 ^ m - 1
theorem fl_bit {m e : Nat} : (fl m).testBit e = decide (e < m) := Nat.testBit_two_pow_sub_one m e
theorem jRun_all {fr to : Nat → Nat} {m k : Nat} (hk : k < m) : jRun fr to (fl m) (k + 1) = jStep (fr k) (to k) k (jRun fr to (fl m) k) := by
  show (if (fl m).testBit k then jStep (fr k) (to k) k (jRun fr to (fl m) k) else jRun fr to (fl m) k) = _
  rw [fl_bit, if_pos (by simp [hk])]
theorem jRun_in {fr to : Nat → Nat} {s k : Nat} (hs : s.testBit k = true) : jRun fr to s (k + 1) = jStep (fr k) (to k) k (jRun fr to s k) := by
  show (if s.testBit k then jStep (fr k) (to k) k (jRun fr to s k) else jRun fr to s k) = _
  rw [if_pos hs]
theorem jRun_out {fr to : Nat → Nat} {s k : Nat} (hs : ¬ s.testBit k = true) : jRun fr to s (k + 1) = jRun fr to s k := by
  show (if s.testBit k then jStep (fr k) (to k) k (jRun fr to s k) else jRun fr to s k) = _
  rw [if_neg hs]
theorem sz_fl (m : Nat) : sz (fl m) m = m := ct0_true m (fun i hi => by rw [fl_bit]; simp [hi])
theorem gc_all {fr to : Nat → Nat} {N m : Nat} (hN : ∀ e, e < m → fr e < N ∧ to e < N) : gc N (jRun fr to (fl m) m) + m = N + (jRun fr to (fl m) m).2.2.1 := by
  have := gc_run (fr := fr) (to := to) (N := N) (s := fl m) m (fun e he _ => hN e he)
  rw [sz_fl] at this; exact this
/-- of the whole graph: the dimension, the closed rings, their closing edges, the even sets by their codes, their weights -/
abbrev dmA (fr to : Nat → Nat) (m : Nat) : Nat := (jRun fr to (fl m) m).2.2.1
abbrev rgA (fr to : Nat → Nat) (m : Nat) : Nat → Nat := (jRun fr to (fl m) m).2.2.2.1
abbrev czA (fr to : Nat → Nat) (m : Nat) : Nat → Nat := (jRun fr to (fl m) m).2.2.2.2
abbrev elA (fr to : Nat → Nat) (m c : Nat) : Nat := cb (rgA fr to m) (dmA fr to m) c
theorem cb_lt {r : Nat → Nat} {m : Nat} : ∀ {d c : Nat}, (∀ i, i < d → ∀ e, (r i).testBit e = true → e < m) → cb r d c < 2 ^ m := by
  intro d c h
  refine Nat.lt_pow_two_of_testBit _ (fun e he => ?_)
  rw [cb_bit]
  refine xs_false _ (fun i hi => ?_)
  cases hr : (r i).testBit e with
  | false => simp
  | true => exact absurd (h i hi e hr) (by omega)
theorem jA {fr to : Nat → Nat} {N m : Nat} (hm : m ≤ 64) (hN : ∀ e, e < m → fr e < N ∧ to e < N) : jOK fr to N (fl m) m (jRun fr to (fl m) m) := jOK_run m hm (fun e he _ => hN e he)
theorem elA_lt {fr to : Nat → Nat} {N m : Nat} (hm : m ≤ 64) (hN : ∀ e, e < m → fr e < N ∧ to e < N) {i c : Nat} (hi : i ≤ dmA fr to m) : cb (rgA fr to m) i c < 2 ^ m :=
  cb_lt (fun j hj e he => ((jA hm hN).2.2.2.2.1 j (Nat.lt_of_lt_of_le hj hi)).2.2.2.1 e he |>.1)
theorem cb_0 (r : Nat → Nat) : ∀ d, cb r d 0 = 0
  | 0 => rfl
  | d + 1 => by simp [cb, cb_0 r d]
theorem ct0_t {n : Nat} {f : Nat → Bool} (h : f n = true) : ct0 (n + 1) f = ct0 n f + 1 := by simp only [ct0]; rw [if_pos h]
theorem ct0_f {n : Nat} {f : Nat → Bool} (h : f n = false) : ct0 (n + 1) f = ct0 n f := by simp only [ct0]; rw [if_neg (by rw [h]; decide), Nat.add_zero]
end
section
-- numbers of the machine, for the walks
theorem nm_shr {z k : Nat} (hz : z < 2 ^ 62) (hk : k < 64) : lN z >>> ((nI k).toInt64 &&& 63) = lN (z / 2 ^ k) := by
  refine pf_shr ?_ hz
  rw [wb_c k hk, wb_tb, wb_sm k hk]
  rw [BitVec.toNat_ofNat]
  exact Nat.mod_eq_of_lt (by omega)
theorem nm_bit {z k : Nat} (hz : z < 2 ^ 62) (hk : k < 64) : (lN z >>> ((nI k).toInt64 &&& 63)) &&& 1 = lN (z / 2 ^ k % 2) := by
  rw [nm_shr hz hk]
  exact wb_a1 (Nat.lt_of_le_of_lt (Nat.div_le_self _ _) (by omega))
theorem nm_tb (z k : Nat) : z / 2 ^ k % 2 = if z.testBit k then 1 else 0 := by
  rw [Nat.testBit_eq_decide_div_mod_eq]
  by_cases h : z / 2 ^ k % 2 = 1
  · simp [h]
  · have : z / 2 ^ k % 2 < 2 := Nat.mod_lt _ (by omega)
    simp [h]; omega
theorem nm_bit1 {z k : Nat} (hz : z < 2 ^ 62) (hk : k < 64) : (lN z >>> ((nI k).toInt64 &&& 63)) &&& 1 = 1 ↔ z.testBit k = true := by
  rw [nm_bit hz hk, nm_tb]
  cases z.testBit k <;> simp <;> decide
theorem nm_bit0 {z k : Nat} (hz : z < 2 ^ 62) (hk : k < 64) : (lN z >>> ((nI k).toInt64 &&& 63)) &&& 1 = 0 ↔ z.testBit k = false := by
  rw [nm_bit hz hk, nm_tb]
  cases z.testBit k <;> simp <;> decide
theorem nm_ubit0 {z k : Nat} (hz : z < 2 ^ 64) (hk : k < 64) : ((lN z).toUInt64 >>> ((nI k).toInt64.toUInt64 &&& Int64.toUInt64 63)).toInt64 &&& 1 = 0 ↔ z.testBit k = false := by
  rw [wb_bit hz hk, nm_tb]
  cases z.testBit k <;> simp <;> decide
theorem nm_pow {k : Nat} (hk : k < 64) : (1 : Int64) <<< ((nI k).toInt64 &&& 63) = lN (2 ^ k) := by
  have := wb_shl 1 hk
  rw [Nat.one_mul] at this
  exact this
theorem nm_il {w : Nat} (h : w < 2 ^ 31) : (nI w).toInt64 = lN w := nI_l h
/-- the weight of the edges below m of a set -/
def wsum (wt : Nat → Nat) (z : Nat) : Nat → Nat
  | 0 => 0
  | e + 1 => wsum wt z e + (if z.testBit e then wt e else 0)
/-- the graph that the reference's cells tell -/
def gM (nv ne : Nat) (fr to wt : Nat → Nat) (I : Nat → Int32) (A : Nat → Nat → Int32) : Prop :=
  1 ≤ nv ∧ nv ≤ 16 ∧ ne ≤ 40 ∧ I 1 = nI nv ∧ I 2 = nI ne ∧ ∀ e, e < ne → (A 3 e = nI (fr e) ∧ fr e < nv) ∧ (A 4 e = nI (to e) ∧ to e < nv) ∧ A 5 e = nI (wt e) ∧ wt e ≤ 1000000000
/-- names of groups and ways, as cells tell them -/
def rG (N : Nat) (g : Nat → Nat) (f : Nat → Int32) : Prop := ∀ v, v < N → f v = nI (g v) ∧ g v < N
def rW (N : Nat) (w : Nat → Nat) (f : Nat → Int64) : Prop := ∀ v, v < N → f v = lN (w v)
/-- the joining's state, as the reference's cells tell it -/
def rJ (N : Nat) (q : JS) (I : Nat → Int32) (A : Nat → Nat → Int32) (B : Nat → Nat → Int64) : Prop :=
  rG N q.1 (A 8) ∧ rW N q.2.1 (B 9) ∧ I 10 = nI q.2.2.1 ∧ ∀ i, i < q.2.2.1 → B 11 i = lN (q.2.2.2.1 i) ∧ A 12 i = nI (q.2.2.2.2 i)
/-- what the joining leaves as it was -/
def fJ (I : Nat → Int32) (A : Nat → Nat → Int32) (B : Nat → Nat → Int64) (u : sgM) : Prop := (∀ k, k ≠ 10 → u.1 k = I k) ∧ (∀ k, k ≠ 8 → k ≠ 12 → u.2.1 k = A k) ∧ ∀ k, k ≠ 9 → k ≠ 11 → u.2.2 k = B k
theorem fJ.rf {I : Nat → Int32} {A : Nat → Nat → Int32} {B : Nat → Nat → Int64} : fJ I A B (I, A, B) := ⟨fun _ _ => rfl, fun _ _ _ => rfl, fun _ _ _ => rfl⟩
theorem fJ.tr {I I1 : Nat → Int32} {A A1 : Nat → Nat → Int32} {B B1 : Nat → Nat → Int64} {u : sgM} (h : fJ I A B (I1, A1, B1)) (h2 : fJ I1 A1 B1 u) : fJ I A B u :=
  ⟨fun k a => (h2.1 k a).trans (h.1 k a), fun k a b => (h2.2.1 k a b).trans (h.2.1 k a b), fun k a b => (h2.2.2 k a b).trans (h.2.2 k a b)⟩
theorem gM.fj {nv ne : Nat} {fr to wt : Nat → Nat} {I : Nat → Int32} {A : Nat → Nat → Int32} {B : Nat → Nat → Int64} {u : sgM} (g : gM nv ne fr to wt I A) (h : fJ I A B u) : gM nv ne fr to wt u.1 u.2.1 := by
  obtain ⟨g1, g2, g3, g4, g5, g6⟩ := g
  refine ⟨g1, g2, g3, by rw [h.1 1 (by decide)]; exact g4, by rw [h.1 2 (by decide)]; exact g5, ?_⟩
  rw [h.2.1 3 (by decide) (by decide), h.2.1 4 (by decide) (by decide), h.2.1 5 (by decide) (by decide)]
  exact g6
theorem rJ_close {N a b e : Nat} {q : JS} {I I' : Nat → Int32} {A A' : Nat → Nat → Int32} {B B' : Nat → Nat → Int64} (h : rJ N q I A B) (hg : q.1 a = q.1 b) (hA8 : A' 8 = A 8) (hB9 : B' 9 = B 9) (hI : I' 10 = nI (q.2.2.1 + 1))
    (hB : B' 11 = vp_updL (B 11) q.2.2.1 (lN (jr q a b e))) (hA : A' 12 = upd (A 12) q.2.2.1 (nI e)) : rJ N (jStep a b e q) I' A' B' := by
  obtain ⟨h1, h2, h3, h4⟩ := h
  unfold jStep
  rw [if_pos hg]
  refine ⟨by rw [hA8]; exact h1, by rw [hB9]; exact h2, hI, fun i hi => ?_⟩
  have hi : i < q.2.2.1 + 1 := hi
  show B' 11 i = lN (va_up q.2.2.2.1 q.2.2.1 (jr q a b e) i) ∧ A' 12 i = nI (va_up q.2.2.2.2 q.2.2.1 e i)
  rw [hB, hA]
  by_cases hd : i = q.2.2.1
  · subst hd; rw [pk_uLs, pk_us, up_self, up_self]; exact ⟨rfl, rfl⟩
  · rw [pk_uLn hd, pk_un hd, up_ne hd, up_ne hd]; exact h4 i (by omega)
theorem rJ_join {N a b e : Nat} {q : JS} {I I' : Nat → Int32} {A A' : Nat → Nat → Int32} {B B' : Nat → Nat → Int64} (h : rJ N q I A B) (ha : a < N) (hg : q.1 a ≠ q.1 b) (hI : I' 10 = I 10) (hB : B' 11 = B 11) (hA : A' 12 = A 12)
    (hA8 : ∀ v, v < N → A' 8 v = nI (if q.1 v = q.1 b then q.1 a else q.1 v)) (hB9 : ∀ v, v < N → B' 9 v = lN (if q.1 v = q.1 b then q.2.1 v ^^^ jr q a b e else q.2.1 v)) : rJ N (jStep a b e q) I' A' B' := by
  obtain ⟨h1, h2, h3, h4⟩ := h
  unfold jStep
  rw [if_neg hg]
  refine ⟨fun v hv => ⟨hA8 v hv, ?_⟩, hB9, by rw [hI]; exact h3, by rw [hB, hA]; exact h4⟩
  show (if q.1 v = q.1 b then q.1 a else q.1 v) < N
  split
  · exact (h1 a ha).2
  · exact (h1 v hv).2
theorem fJ.of {I I' : Nat → Int32} {A A' : Nat → Nat → Int32} {B B' : Nat → Nat → Int64} (h1 : ∀ k, k ≠ 10 → I' k = I k) (h2 : ∀ k, k ≠ 8 → k ≠ 12 → A' k = A k) (h3 : ∀ k, k ≠ 9 → k ≠ 11 → B' k = B k) : fJ I A B (I', A', B') := ⟨h1, h2, h3⟩
theorem dim_eq {a b c d : Nat} (h : a + b = c + d) : nI b - nI c + nI a = nI d := by
  have h1 : nI a + nI b = nI c + nI d := by rw [nI_add, nI_add, h]
  grind
/-- edge: the arguments are no edge's; there is no room for it -/
def bE (nv : Nat) (a b w : Int32) : Prop := a < 0 ∨ nI nv ≤ a ∨ b < 0 ∨ nI nv ≤ b ∨ w < 0 ∨ 1000000000 < w
def fE (ne : Nat) (q : JS) (a b : Int32) : Prop := ne = 40 ∨ (q.2.2.1 = 14 ∧ q.1 a.toNatClampNeg = q.1 b.toNatClampNeg)
theorem isv {a n : Int32} : (if a < 0 then 0 else if n ≤ a then 0 else 1 : Int32) = 0 ↔ a < 0 ∨ n ≤ a := by
  by_cases h : a < 0
  · simp [h]
  · by_cases h2 : n ≤ a
    · simp [h, h2]
    · simp [h, h2]
theorem vtx_of {nv : Nat} {a : Int32} (hn : nv ≤ 16) (h0 : ¬ a < 0) (h1 : ¬ nI nv ≤ a) : ∃ j, j < nv ∧ a = nI j ∧ a.toNatClampNeg = j := by
  obtain ⟨j, hj, rfl⟩ := nI_of h0
  rw [nI_leI (by omega) hj] at h1
  exact ⟨j, by omega, rfl, nI_clamp hj⟩
/-- the reference's cells but for 'thrown' and the joining's -/
def fQ (I : Nat → Int32) (A : Nat → Nat → Int32) (B : Nat → Nat → Int64) (u : sgM) : Prop := (∀ k, k ≠ 0 → k ≠ 10 → u.1 k = I k) ∧ (∀ k, k ≠ 8 → k ≠ 12 → u.2.1 k = A k) ∧ ∀ k, k ≠ 9 → k ≠ 11 → u.2.2 k = B k
theorem fQ.of {I I' : Nat → Int32} {A A' : Nat → Nat → Int32} {B B' : Nat → Nat → Int64} (h1 : ∀ k, k ≠ 0 → k ≠ 10 → I' k = I k) (h2 : ∀ k, k ≠ 8 → k ≠ 12 → A' k = A k) (h3 : ∀ k, k ≠ 9 → k ≠ 11 → B' k = B k) : fQ I A B (I', A', B') := ⟨h1, h2, h3⟩
/-- edge: one more -/
def nE (ne : Nat) (a b w : Int32) (I : Nat → Int32) (A : Nat → Nat → Int32) (B : Nat → Nat → Int64) (u : sgM) : Prop :=
  u.1 2 = nI (ne + 1) ∧ (∀ k, k ≠ 0 → k ≠ 2 → k ≠ 10 → u.1 k = I k) ∧ u.2.1 3 = upd (A 3) ne a ∧ u.2.1 4 = upd (A 4) ne b ∧ u.2.1 5 = upd (A 5) ne w ∧ (∀ k, k ≠ 3 → k ≠ 4 → k ≠ 5 → k ≠ 8 → k ≠ 12 → u.2.1 k = A k) ∧ ∀ k, k ≠ 9 → k ≠ 11 → u.2.2 k = B k
theorem nm_ishl {k : Nat} (hk : k < 31) : (1 : Int32) <<< (nI k &&& 31) = nI (2 ^ k) := by
  have h2 : 2 ^ k < 2 ^ 31 := Nat.pow_lt_pow_right (by omega) (by omega)
  have := pk_shlN (n := 1) (nI k &&& 31) k (s_l k (by omega)) (by omega)
  rw [Nat.one_mul] at this
  exact this
theorem nm_ishr {z k : Nat} (hz : z < 2 ^ 31) (hk : k < 32) : nI z >>> (nI k &&& 31) = nI (z / 2 ^ k) := pk_shrN hz _ k (s_l k hk)
theorem nm_ibit {z k : Nat} (hz : z < 2 ^ 31) (hk : k < 32) : (nI z >>> (nI k &&& 31)) &&& 1 = nI (if z.testBit k then 1 else 0) := by
  rw [nm_ishr hz hk, pk_andN (Nat.lt_of_le_of_lt (Nat.div_le_self _ _) (by omega)) 1 (by decide), Nat.pow_one, nm_tb]
theorem nm_ibit1 {z k : Nat} (hz : z < 2 ^ 31) (hk : k < 32) : (nI z >>> (nI k &&& 31)) &&& 1 = 1 ↔ z.testBit k = true := by
  rw [nm_ibit hz hk]
  cases z.testBit k <;> simp <;> decide
theorem pw14 {d : Nat} (h : d ≤ 14) : 2 ^ d ≤ 16384 := Nat.pow_le_pow_right (n := 2) (by omega) h
theorem pw40 {z m : Nat} (h : z < 2 ^ m) (hm : m ≤ 40) : z < 2 ^ 62 := Nat.lt_of_lt_of_le h (Nat.pow_le_pow_right (by omega) (by omega))
/-- what the spreading leaves as it was -/
def fS (I : Nat → Int32) (A : Nat → Nat → Int32) (B : Nat → Nat → Int64) (u : sgM) : Prop := (∀ k, k ≠ 10 → u.1 k = I k) ∧ (∀ k, k ≠ 8 → k ≠ 12 → u.2.1 k = A k) ∧ ∀ k, k ≠ 9 → k ≠ 11 → k ≠ 13 → k ≠ 14 → u.2.2 k = B k
theorem fS.of {I I' : Nat → Int32} {A A' : Nat → Nat → Int32} {B B' : Nat → Nat → Int64} (h1 : ∀ k, k ≠ 10 → I' k = I k) (h2 : ∀ k, k ≠ 8 → k ≠ 12 → A' k = A k) (h3 : ∀ k, k ≠ 9 → k ≠ 11 → k ≠ 13 → k ≠ 14 → B' k = B k) : fS I A B (I', A', B') := ⟨h1, h2, h3⟩
theorem gM.fs {nv ne : Nat} {fr to wt : Nat → Nat} {I : Nat → Int32} {A : Nat → Nat → Int32} {B : Nat → Nat → Int64} {u : sgM} (g : gM nv ne fr to wt I A) (h : fS I A B u) : gM nv ne fr to wt u.1 u.2.1 := by
  obtain ⟨g1, g2, g3, g4, g5, g6⟩ := g
  refine ⟨g1, g2, g3, by rw [h.1 1 (by decide)]; exact g4, by rw [h.1 2 (by decide)]; exact g5, ?_⟩
  rw [h.2.1 3 (by decide) (by decide), h.2.1 4 (by decide) (by decide), h.2.1 5 (by decide) (by decide)]
  exact g6
theorem gM.en {nv ne : Nat} {fr to wt : Nat → Nat} {I : Nat → Int32} {A : Nat → Nat → Int32} (g : gM nv ne fr to wt I A) : ∀ e, e < ne → fr e < nv ∧ to e < nv := fun e he => ⟨(g.2.2.2.2.2 e he).1.2, (g.2.2.2.2.2 e he).2.1.2⟩
end
section
-- the reference's answers, as numbers
/-- ends of a set's edges at v -/
def dg (fr to : Nat → Nat) (z : Nat) : Nat → Nat → Nat
  | 0, _ => 0
  | e + 1, v => dg fr to z e v + (if z.testBit e then (if fr e = v then 1 else 0) + (if to e = v then 1 else 0) else 0)
theorem dg_le (fr to : Nat → Nat) (z v : Nat) : ∀ m, dg fr to z m v ≤ 2 * m
  | 0 => Nat.le_refl _
  | m + 1 => by
    have := dg_le fr to z v m
    simp only [dg]
    split
    · split <;> split <;> omega
    · omega
abbrev evn (fr to : Nat → Nat) (nv ne z : Nat) : Prop := ∀ v, v < nv → dg fr to z ne v % 2 = 0
abbrev rng (fr to : Nat → Nat) (nv ne z : Nat) : Prop := z ≠ 0 ∧ (∀ v, v < nv → dg fr to z ne v ≤ 2) ∧ (jRun fr to z ne).2.2.1 = 1
theorem nI_b {P : Prop} [Decidable P] : (if P then (1 : Int32) else 0) = nI (if P then 1 else 0) := by split <;> rfl
theorem bll_succ {P : Nat → Prop} {i : Nat} : (∀ v, v < i + 1 → P v) ↔ (∀ v, v < i → P v) ∧ P i :=
  ⟨fun h => ⟨fun v hv => h v (by omega), h i (by omega)⟩, fun h v hv => by
    rcases Nat.lt_or_ge v i with q | q
    · exact h.1 v q
    · have : v = i := by omega
      rw [this]; exact h.2⟩
theorem nm_rem2 {n : Nat} (h : n < 2 ^ 31) : nI n - nI n / 2 * 2 = nI (n % 2) := pk_rem (d := 2) h (by decide) (by decide)
/-- the sum of the rows that make a number smaller -/
def rsn (rows : Nat → Nat) : Nat → Nat → Nat
  | 0, z => z
  | k + 1, z => if rsn rows k z ^^^ rows k < rsn rows k z then rsn rows k z ^^^ rows k else rsn rows k z
/-- the rows, as the reference's cells tell them -/
def rR (b rd : Nat) (rows : Nat → Nat) (I : Nat → Int32) (B : Nat → Nat → Int64) : Prop := I 16 = nI rd ∧ ∀ k, k < rd → B 15 k = lN (rows k) ∧ rows k < 2 ^ b
theorem rsn_lt {rows : Nat → Nat} {b z : Nat} (hz : z < 2 ^ b) : ∀ k, (∀ i, i < k → rows i < 2 ^ b) → rsn rows k z < 2 ^ b
  | 0, _ => hz
  | k + 1, h => by
    have ih := rsn_lt hz k (fun i hi => h i (by omega))
    simp only [rsn]
    split
    · exact Nat.xor_lt_two_pow ih (h k (by omega))
    · exact ih
/-- the list, as the reference's cells tell it -/
def lM (L : Nat) (li : Nat → Nat) (I : Nat → Int32) (B : Nat → Nat → Int64) : Prop := I 7 = nI L ∧ L ≤ 64 ∧ ∀ k, k < L → B 6 k = lN (li k) ∧ li k < 2 ^ 40
theorem pwb {z b : Nat} (h : z < 2 ^ b) (hb : b ≤ 40) : z < 2 ^ 63 := Nat.lt_of_lt_of_le h (Nat.pow_le_pow_right (by omega) (by omega))
/-- what a question leaves as it was: the graph and the list -/
def fP (I : Nat → Int32) (A : Nat → Nat → Int32) (B : Nat → Nat → Int64) (u : sgM) : Prop :=
  (∀ k, k ≠ 0 → k ≠ 10 → k ≠ 16 → u.1 k = I k) ∧ (∀ k, k ≠ 8 → k ≠ 12 → k ≠ 18 → k ≠ 19 → u.2.1 k = A k) ∧ ∀ k, k ≠ 9 → k ≠ 11 → k ≠ 13 → k ≠ 14 → k ≠ 15 → k ≠ 17 → u.2.2 k = B k
theorem fP.of {I I' : Nat → Int32} {A A' : Nat → Nat → Int32} {B B' : Nat → Nat → Int64} (h1 : ∀ k, k ≠ 0 → k ≠ 10 → k ≠ 16 → I' k = I k) (h2 : ∀ k, k ≠ 8 → k ≠ 12 → k ≠ 18 → k ≠ 19 → A' k = A k) (h3 : ∀ k, k ≠ 9 → k ≠ 11 → k ≠ 13 → k ≠ 14 → k ≠ 15 → k ≠ 17 → B' k = B k) : fP I A B (I', A', B') := ⟨h1, h2, h3⟩
theorem fP.rf0 {I I' : Nat → Int32} {A : Nat → Nat → Int32} {B : Nat → Nat → Int64} {v : Int32} (h : I' = va_up I 0 v) : fP I A B (I', A, B) := ⟨fun k h0 _ _ => by rw [h]; exact up_ne h0, fun _ _ _ _ _ => rfl, fun _ _ _ _ _ _ _ => rfl⟩
theorem fP.tr {I I1 : Nat → Int32} {A A1 : Nat → Nat → Int32} {B B1 : Nat → Nat → Int64} {u : sgM} (h : fP I A B (I1, A1, B1)) (h2 : fP I1 A1 B1 u) : fP I A B u :=
  ⟨fun k a b c => (h2.1 k a b c).trans (h.1 k a b c), fun k a b c d => (h2.2.1 k a b c d).trans (h.2.1 k a b c d), fun k a b c d e f => (h2.2.2 k a b c d e f).trans (h.2.2 k a b c d e f)⟩
theorem fJ.fp {I : Nat → Int32} {A : Nat → Nat → Int32} {B : Nat → Nat → Int64} {u : sgM} (h : fJ I A B u) : fP I A B u := ⟨fun k _ b _ => h.1 k b, fun k a b _ _ => h.2.1 k a b, fun k a b _ _ _ _ => h.2.2 k a b⟩
theorem fS.fp {I : Nat → Int32} {A : Nat → Nat → Int32} {B : Nat → Nat → Int64} {u : sgM} (h : fS I A B u) : fP I A B u := ⟨fun k _ b _ => h.1 k b, fun k a b _ _ => h.2.1 k a b, fun k a b c d _ _ => h.2.2 k a b c d⟩
theorem fQ.fp {I : Nat → Int32} {A : Nat → Nat → Int32} {B : Nat → Nat → Int64} {u : sgM} (h : fQ I A B u) : fP I A B u := ⟨fun k a b _ => h.1 k a b, fun k a b _ _ => h.2.1 k a b, fun k a b _ _ _ _ => h.2.2 k a b⟩
theorem gM.fp {nv ne : Nat} {fr to wt : Nat → Nat} {I : Nat → Int32} {A : Nat → Nat → Int32} {B : Nat → Nat → Int64} {u : sgM} (g : gM nv ne fr to wt I A) (h : fP I A B u) : gM nv ne fr to wt u.1 u.2.1 := by
  obtain ⟨g1, g2, g3, g4, g5, g6⟩ := g
  refine ⟨g1, g2, g3, by rw [h.1 1 (by decide) (by decide) (by decide)]; exact g4, by rw [h.1 2 (by decide) (by decide) (by decide)]; exact g5, ?_⟩
  rw [h.2.1 3 (by decide) (by decide) (by decide) (by decide), h.2.1 4 (by decide) (by decide) (by decide) (by decide), h.2.1 5 (by decide) (by decide) (by decide) (by decide)]
  exact g6
theorem nm_set {z k : Nat} (hz : z < 2 ^ 64) (hk : k ≤ 40) : ((lN z).toUInt64 >>> ((nI k).toInt64.toUInt64 &&& Int64.toUInt64 63)).toInt64 = 0 ↔ z < 2 ^ k := by
  rw [wb_shr hz (by omega)]
  have hp : 0 < 2 ^ k := Nat.two_pow_pos k
  have hl : z / 2 ^ k < 2 ^ 64 := Nat.lt_of_le_of_lt (Nat.div_le_self _ _) hz
  constructor
  · intro h
    have h2 : z / 2 ^ k = 0 := by
      have this : (lN (z / 2 ^ k)).toBitVec.toNat = (0 : Int64).toBitVec.toNat := congrArg (fun x => x.toBitVec.toNat) h
      rw [wb_tn hl] at this
      exact this
    rcases Nat.lt_or_ge z (2 ^ k) with q | q
    · exact q
    · have := Nat.div_pos q hp; omega
  · intro h
    rw [Nat.div_eq_of_lt h]; rfl
/-- the least of w over those below i that P has; -1 without one -/
def thI (P : Nat → Bool) (w : Nat → Nat) (i : Nat) (y : Int64) : Prop :=
  (y = -1 ∧ ∀ c, c < i → P c = false) ∨ ∃ c, c < i ∧ P c = true ∧ y = lN (w c) ∧ ∀ c', c' < i → P c' = true → w c ≤ w c'
theorem lN_nneg {a : Nat} (h : a < 2 ^ 63) : ¬ lN a < 0 := fun h2 => absurd ((pk_lLT (b := 0) h (by decide)).mp h2) (Nat.not_lt_zero _)
theorem thI_skip {P : Nat → Bool} {w : Nat → Nat} {i : Nat} {y : Int64} (h : thI P w i y) (hp : P i = false) : thI P w (i + 1) y := by
  have key : ∀ c, c < i + 1 → P c = true → c < i := fun c hc h2 => by
    rcases Nat.lt_or_ge c i with q | q
    · exact q
    · have : c = i := by omega
      rw [this, hp] at h2; cases h2
  rcases h with ⟨h1, h2⟩ | ⟨c, hc, h1, h2, h3⟩
  · refine Or.inl ⟨h1, fun c hc => ?_⟩
    cases hh : P c with
    | false => rfl
    | true => rw [← hh]; exact h2 c (key c hc hh)
  · exact Or.inr ⟨c, by omega, h1, h2, fun c' hc' h4 => h3 c' (key c' hc' h4) h4⟩
theorem thI_neg {P : Nat → Bool} {w : Nat → Nat} {i : Nat} {y : Int64} (h : thI P w i y) (hw : ∀ c, w c < 2 ^ 63) (hp : P i = true) (hy : y < 0) : thI P w (i + 1) (lN (w i)) := by
  rcases h with ⟨h1, h2⟩ | ⟨c, hc, h1, h2, h3⟩
  · refine Or.inr ⟨i, by omega, hp, rfl, fun c' hc' h4 => ?_⟩
    rcases Nat.lt_or_ge c' i with q | q
    · rw [h2 c' q] at h4; cases h4
    · have : c' = i := by omega
      rw [this]; exact Nat.le_refl _
  · rw [h2] at hy; exact absurd hy (lN_nneg (hw c))
theorem thI_keep {P : Nat → Bool} {w : Nat → Nat} {i : Nat} {y : Int64} (h : thI P w i y) (hw : ∀ c, w c < 2 ^ 63) (hy : ¬ y < 0) (hl : y ≤ lN (w i)) : thI P w (i + 1) y := by
  rcases h with ⟨h1, h2⟩ | ⟨c, hc, h1, h2, h3⟩
  · rw [h1] at hy; exact absurd (by decide) hy
  · rw [h2, pk_lLE (hw c) (hw i)] at hl
    refine Or.inr ⟨c, by omega, h1, h2, fun c' hc' h4 => ?_⟩
    rcases Nat.lt_or_ge c' i with q | q
    · exact h3 c' q h4
    · have : c' = i := by omega
      rw [this]; exact hl
theorem thI_new {P : Nat → Bool} {w : Nat → Nat} {i : Nat} {y : Int64} (h : thI P w i y) (hw : ∀ c, w c < 2 ^ 63) (hp : P i = true) (hy : ¬ y < 0) (hl : ¬ y ≤ lN (w i)) : thI P w (i + 1) (lN (w i)) := by
  rcases h with ⟨h1, h2⟩ | ⟨c, hc, h1, h2, h3⟩
  · rw [h1] at hy; exact absurd (by decide) hy
  · rw [h2, pk_lLE (hw c) (hw i)] at hl
    refine Or.inr ⟨i, by omega, hp, rfl, fun c' hc' h4 => ?_⟩
    rcases Nat.lt_or_ge c' i with q | q
    · have := h3 c' q h4; omega
    · have : c' = i := by omega
      rw [this]; exact Nat.le_refl _
theorem wsum_le {wt : Nat → Nat} {z : Nat} : ∀ m, (∀ e, e < m → wt e ≤ 1000000000) → wsum wt z m ≤ m * 1000000000
  | 0, _ => Nat.le_refl _
  | m + 1, h => by
    have := wsum_le (z := z) m (fun e he => h e (by omega))
    have h2 := h m (by omega)
    simp only [wsum]
    rw [Nat.succ_mul]
    refine Nat.add_le_add this ?_
    split
    · exact h2
    · exact Nat.zero_le _
theorem gM.wl {nv ne : Nat} {fr to wt : Nat → Nat} {I : Nat → Int32} {A : Nat → Nat → Int32} (g : gM nv ne fr to wt I A) (z : Nat) : wsum wt z ne < 2 ^ 40 := by
  have h := wsum_le (z := z) ne (fun e he => (g.2.2.2.2.2 e he).2.2.2)
  have := g.2.2.1
  omega
theorem or_bit {a i : Nat} (ha : a < 2 ^ i) (hi : i < 31) : nI a ||| nI (2 ^ i) = nI (a + 2 ^ i) := by
  have h1 : a ||| 2 ^ i = a + 2 ^ i := by
    have := Nat.two_pow_add_eq_or_of_lt ha 1
    rw [Nat.mul_one] at this
    rw [Nat.or_comm, ← this, Nat.add_comm]
  rw [← h1]
  apply Int32.toBitVec_inj.1
  show BitVec.ofNat 32 a ||| BitVec.ofNat 32 (2 ^ i) = BitVec.ofNat 32 (a ||| 2 ^ i)
  apply BitVec.eq_of_getLsbD_eq
  intro j hj
  simp [hj]
end
section
-- spans of numbers under xor, and rows with falling top bits
/-- what sums of those that P has can be -/
def spS (P : Nat → Prop) (y : Nat) : Prop := ∀ V : Nat → Prop, V 0 → (∀ a b, V a → V b → V (a ^^^ b)) → (∀ a, P a → V a) → V y
theorem spS_0 (P : Nat → Prop) : spS P 0 := fun _ h _ _ => h
theorem spS_x {P : Nat → Prop} {a b : Nat} (h1 : spS P a) (h2 : spS P b) : spS P (a ^^^ b) := fun V v0 vx vp => vx a b (h1 V v0 vx vp) (h2 V v0 vx vp)
theorem spS_p {P : Nat → Prop} {a : Nat} (h : P a) : spS P a := fun _ _ _ vp => vp a h
theorem spS_in {P Q : Nat → Prop} (h : ∀ a, P a → spS Q a) {y : Nat} (hy : spS P y) : spS Q y := hy (spS Q) (spS_0 Q) (fun _ _ => spS_x) h
theorem xor_self' (a : Nat) : a ^^^ a = 0 := Nat.xor_self a
theorem xor_can (a b : Nat) : (a ^^^ b) ^^^ b = a := by rw [Nat.xor_assoc, Nat.xor_self, Nat.xor_zero]
theorem xor_mid (a b c : Nat) : (a ^^^ c) ^^^ (b ^^^ c) = a ^^^ b := by
  rw [Nat.xor_assoc, ← Nat.xor_assoc c b c, Nat.xor_comm c b, Nat.xor_assoc b c c, Nat.xor_self, Nat.xor_zero]
theorem spS_ins {P : Nat → Prop} {z y : Nat} : spS (fun a => P a ∨ a = z) y ↔ spS P y ∨ spS P (y ^^^ z) := by
  constructor
  · intro h
    refine h (fun y => spS P y ∨ spS P (y ^^^ z)) (Or.inl (spS_0 P)) (fun a b ha hb => ?_) (fun a ha => ?_)
    · rcases ha with ha | ha <;> rcases hb with hb | hb
      · exact Or.inl (spS_x ha hb)
      · exact Or.inr (by have := spS_x ha hb; rwa [← Nat.xor_assoc] at this)
      · refine Or.inr ?_
        have := spS_x ha hb
        rwa [Nat.xor_assoc, Nat.xor_comm z b, ← Nat.xor_assoc] at this
      · exact Or.inl (by have := spS_x ha hb; rwa [xor_mid] at this)
    · rcases ha with ha | ha
      · exact Or.inl (spS_p ha)
      · exact Or.inr (by rw [ha, Nat.xor_self]; exact spS_0 P)
  · rintro (h | h)
    · exact spS_in (fun a ha => spS_p (Or.inl ha)) h
    · have h1 : spS (fun a => P a ∨ a = z) (y ^^^ z) := spS_in (fun a ha => spS_p (Or.inl ha)) h
      have := spS_x h1 (spS_p (Or.inr rfl))
      rwa [xor_can] at this
theorem cb_pow (r : Nat → Nat) {k i : Nat} (hi : i < k) : cb r k (2 ^ i) = r i := by
  refine Nat.eq_of_testBit_eq (fun e => ?_)
  rw [cb_bit, xs_one hi]
  · rw [Nat.testBit_two_pow_self]; simp
  · intro j _ hne
    rw [Nat.testBit_two_pow_of_ne (fun h => hne h.symm)]; rfl
theorem cb_in {P : Nat → Prop} {r : Nat → Nat} : ∀ {k c : Nat}, (∀ i, i < k → spS P (r i)) → spS P (cb r k c)
  | 0, _, _ => spS_0 P
  | k + 1, c, h => by
    refine spS_x (cb_in (fun i hi => h i (by omega))) ?_
    split
    · exact h k (by omega)
    · exact spS_0 P
theorem cb_sp {r : Nat → Nat} {k y : Nat} : (∃ c, y = cb r k c) ↔ spS (fun a => ∃ i, i < k ∧ a = r i) y := by
  constructor
  · rintro ⟨c, rfl⟩
    exact cb_in (fun i hi => spS_p ⟨i, hi, rfl⟩)
  · intro h
    refine h (fun y => ∃ c, y = cb r k c) ⟨0, (cb_0 r k).symm⟩ ?_ ?_
    · rintro a b ⟨c, rfl⟩ ⟨d, rfl⟩
      exact ⟨c ^^^ d, (cb_xor r k c d).symm⟩
    · rintro a ⟨i, hi, rfl⟩
      exact ⟨2 ^ i, (cb_pow r hi).symm⟩
/-- rows whose top bits fall -/
def rowsOK (rd : Nat) (rows : Nat → Nat) : Prop := ∃ tp : Nat → Nat, (∀ i, i < rd → (rows i).testBit (tp i) = true ∧ rows i < 2 ^ (tp i + 1)) ∧ ∀ i j, i < j → j < rd → tp j < tp i
theorem hi_bit {x t j : Nat} (h : x < 2 ^ (t + 1)) (hj : t < j) : x.testBit j = false := Nat.testBit_lt_two_pow (Nat.lt_of_lt_of_le h (Nat.pow_le_pow_right (by omega) (by omega)))
theorem lt_bit {x y i : Nat} (hx : x.testBit i = false) (hy : y.testBit i = true) (h : ∀ j, i < j → x.testBit j = y.testBit j) : x < y := by
  have h1 : x / 2 ^ (i + 1) = y / 2 ^ (i + 1) := Nat.eq_of_testBit_eq (fun j => by rw [Nat.testBit_div_two_pow, Nat.testBit_div_two_pow]; exact h _ (by omega))
  have h2 : x % 2 ^ (i + 1) < 2 ^ i := Nat.lt_pow_two_of_testBit _ (fun j hj => by
    rw [Nat.testBit_mod_two_pow]
    by_cases e : j = i
    · subst e; rw [hx]; simp
    · simp; intro; omega)
  have h3 : 2 ^ i ≤ y % 2 ^ (i + 1) := Nat.ge_two_pow_of_testBit (by rw [Nat.testBit_mod_two_pow, hy]; simp)
  have e1 := Nat.div_add_mod x (2 ^ (i + 1))
  have e2 := Nat.div_add_mod y (2 ^ (i + 1))
  rw [h1] at e1
  omega
theorem xlt {row t y : Nat} (h1 : row.testBit t = true) (h2 : row < 2 ^ (t + 1)) : y ^^^ row < y ↔ y.testBit t = true := by
  have hh : ∀ j, t < j → (y ^^^ row).testBit j = y.testBit j := fun j hj => by rw [Nat.testBit_xor, hi_bit h2 hj]; simp
  constructor
  · intro h
    cases hy : y.testBit t with
    | true => rfl
    | false =>
      have := lt_bit hy (by rw [Nat.testBit_xor, hy, h1]; rfl) (fun j hj => (hh j hj).symm)
      omega
  · intro h
    exact lt_bit (by rw [Nat.testBit_xor, h, h1]; rfl) h hh
theorem rsn_ok {rows : Nat → Nat} {tp : Nat → Nat} {z : Nat} : ∀ k, (∀ i, i < k → (rows i).testBit (tp i) = true ∧ rows i < 2 ^ (tp i + 1)) → (∀ i j, i < j → j < k → tp j < tp i) →
    (∀ i, i < k → (rsn rows k z).testBit (tp i) = false) ∧ spS (fun a => ∃ i, i < k ∧ a = rows i) (z ^^^ rsn rows k z)
  | 0, _, _ => ⟨fun i h => absurd h (Nat.not_lt_zero _), by simp only [rsn]; rw [Nat.xor_self]; exact spS_0 _⟩
  | k + 1, h, ht => by
    obtain ⟨ih1, ih2⟩ := rsn_ok (z := z) k (fun i hi => h i (by omega)) (fun i j hij hj => ht i j hij (by omega))
    have hk := h k (by omega)
    have ih2' : spS (fun a => ∃ i, i < k + 1 ∧ a = rows i) (z ^^^ rsn rows k z) := spS_in (fun a ⟨i, hi, e⟩ => spS_p ⟨i, by omega, e⟩) ih2
    simp only [rsn]
    by_cases hc : rsn rows k z ^^^ rows k < rsn rows k z
    · rw [if_pos hc]
      refine ⟨fun i hi => ?_, ?_⟩
      · rw [Nat.testBit_xor]
        by_cases hik : i = k
        · subst hik; rw [(xlt hk.1 hk.2).mp hc, hk.1]; rfl
        · rw [ih1 i (by omega), hi_bit hk.2 (ht i k (by omega) (by omega))]; rfl
      · rw [← Nat.xor_assoc]; exact spS_x ih2' (spS_p ⟨k, by omega, rfl⟩)
    · rw [if_neg hc]
      refine ⟨fun i hi => ?_, ih2'⟩
      by_cases hik : i = k
      · subst hik; exact bool_f (fun h => hc ((xlt hk.1 hk.2).mpr h))
      · exact ih1 i (by omega)
theorem cb_tops {rows tp : Nat → Nat} {k c : Nat} (h : ∀ i, i < k → (rows i).testBit (tp i) = true ∧ rows i < 2 ^ (tp i + 1)) (ht : ∀ i j, i < j → j < k → tp j < tp i) (h0 : ∀ i, i < k → (cb rows k c).testBit (tp i) = false) : ∀ i, i < k → c.testBit i = false := by
  intro i
  induction i using Nat.strongRecOn with
  | _ i ih =>
    intro hi
    refine bool_f (fun hc => ?_)
    have := h0 i hi
    rw [cb_bit, xs_one hi] at this
    · rw [hc, (h i hi).1] at this; cases this
    · intro j hj hne
      rcases Nat.lt_or_ge j i with q | q
      · rw [ih j q hj]; rfl
      · rw [hi_bit (h j hj).2 (ht i j (by omega) hj)]; simp
theorem cb_none {r : Nat → Nat} {c : Nat} : ∀ k, (∀ i, i < k → c.testBit i = false) → cb r k c = 0
  | 0, _ => rfl
  | k + 1, h => by simp [cb, cb_none k (fun i hi => h i (by omega)), h k (by omega)]
/-- the rows span what P spans -/
def rowsS (rd : Nat) (rows : Nat → Nat) (P : Nat → Prop) : Prop := rowsOK rd rows ∧ ∀ y, spS (fun a => ∃ i, i < rd ∧ a = rows i) y ↔ spS P y
theorem rowsS_0 (rows : Nat → Nat) {P : Nat → Prop} (hP : ∀ a, ¬ P a) : rowsS 0 rows P := by
  refine ⟨⟨fun _ => 0, fun i h => absurd h (Nat.not_lt_zero _), fun i j _ h => absurd h (Nat.not_lt_zero _)⟩, fun y => ⟨spS_in (fun a ⟨i, h, _⟩ => absurd h (Nat.not_lt_zero _)), spS_in (fun a h => absurd h (hP a))⟩⟩
theorem rowsS.rest {rd : Nat} {rows : Nat → Nat} {P : Nat → Prop} (h : rowsS rd rows P) (z : Nat) : rsn rows rd z = 0 ↔ spS P z := by
  obtain ⟨⟨tp, h1, h2⟩, h3⟩ := h
  obtain ⟨a1, a2⟩ := rsn_ok (z := z) rd h1 h2
  rw [← h3]
  constructor
  · intro h; rw [h, Nat.xor_zero] at a2; exact a2
  · intro h
    have h4 : spS (fun a => ∃ i, i < rd ∧ a = rows i) (rsn rows rd z) := by
      have := spS_x h a2
      rwa [← Nat.xor_assoc, Nat.xor_self, Nat.zero_xor] at this
    obtain ⟨c, hc⟩ := cb_sp.mpr h4
    rw [hc] at a1
    rw [hc]; exact cb_none rd (cb_tops h1 h2 a1)
theorem rowsS.rsp {rd : Nat} {rows : Nat → Nat} {P : Nat → Prop} (h : rowsS rd rows P) (z : Nat) : spS P (z ^^^ rsn rows rd z) := by
  obtain ⟨⟨tp, h1, h2⟩, h3⟩ := h
  exact (h3 _).mp (rsn_ok (z := z) rd h1 h2).2
/-- a row comes in at p -/
def insR (rows : Nat → Nat) (p x : Nat) : Nat → Nat := fun j => if j < p then rows j else if j = p then x else rows (j - 1)
theorem insR_ok {rd p x : Nat} {rows : Nat → Nat} (hp : p ≤ rd) (h : rowsOK rd rows) (hx : x ≠ 0) (hz : ∀ tp : Nat → Nat, (∀ i, i < rd → (rows i).testBit (tp i) = true ∧ rows i < 2 ^ (tp i + 1)) → (∀ i j, i < j → j < rd → tp j < tp i) → ∀ i, i < rd → x.testBit (tp i) = false) (h1 : ∀ i, i < p → x ≤ rows i) (h2 : ∀ i, p ≤ i → i < rd → rows i < x) : rowsOK (rd + 1) (insR rows p x) := by
  obtain ⟨tp, t1, t2⟩ := h
  have hzz := hz tp t1 t2
  have hxl : 2 ^ x.log2 ≤ x := Nat.log2_self_le hx
  have hxu : x < 2 ^ (x.log2 + 1) := Nat.lt_log2_self
  have hxb : x.testBit x.log2 = true := by
    rw [Nat.testBit_eq_decide_div_mod_eq]
    have : x / 2 ^ x.log2 = 1 := by
      refine Nat.div_eq_of_lt_le ?_ ?_
      · rw [Nat.one_mul]; exact hxl
      · rw [Nat.pow_succ] at hxu; omega
    rw [this]; rfl
  have hne : ∀ i, i < rd → tp i ≠ x.log2 := fun i hi e => by have := hzz i hi; rw [e, hxb] at this; cases this
  have hlo : ∀ i, i < rd → 2 ^ tp i ≤ rows i := fun i hi => Nat.ge_two_pow_of_testBit (t1 i hi).1
  have hb1 : ∀ i, i < p → x.log2 < tp i := fun i hi => by
    rcases Nat.lt_or_ge x.log2 (tp i) with q | q
    · exact q
    · have q2 : tp i + 1 ≤ x.log2 := by have := hne i (by omega); omega
      have h3 := (t1 i (by omega)).2
      have h4 : 2 ^ (tp i + 1) ≤ 2 ^ x.log2 := Nat.pow_le_pow_right (by omega) q2
      have := h1 i hi; omega
  have hb2 : ∀ i, p ≤ i → i < rd → tp i < x.log2 := fun i hi hr => by
    rcases Nat.lt_or_ge (tp i) x.log2 with q | q
    · exact q
    · have q2 : x.log2 + 1 ≤ tp i := by have := hne i hr; omega
      have h4 : 2 ^ (x.log2 + 1) ≤ 2 ^ tp i := Nat.pow_le_pow_right (by omega) q2
      have := h2 i hi hr; have := hlo i hr; omega
  refine ⟨insR tp p x.log2, fun i hi => ?_, fun i j hij hj => ?_⟩
  · unfold insR
    by_cases a : i < p
    · simp only [if_pos a]; exact t1 i (by omega)
    · by_cases b : i = p
      · simp only [if_neg a, if_pos b]; exact ⟨hxb, hxu⟩
      · simp only [if_neg a, if_neg b]; exact t1 (i - 1) (by omega)
  · unfold insR
    by_cases a : i < p
    · simp only [if_pos a]
      by_cases a2 : j < p
      · simp only [if_pos a2]; exact t2 i j hij (by omega)
      · by_cases b2 : j = p
        · simp only [if_neg a2, if_pos b2]; exact hb1 i a
        · simp only [if_neg a2, if_neg b2]; exact t2 i (j - 1) (by omega) (by omega)
    · have a2 : ¬ j < p := by omega
      have b2 : ¬ j = p := by omega
      simp only [if_neg a, if_neg a2, if_neg b2]
      by_cases b : i = p
      · simp only [if_pos b]; exact hb2 (j - 1) (by omega) (by omega)
      · simp only [if_neg b]; exact t2 (i - 1) (j - 1) (by omega) (by omega)
theorem insR_sp {rd p x : Nat} {rows : Nat → Nat} (hp : p ≤ rd) (y : Nat) : spS (fun a => ∃ i, i < rd + 1 ∧ a = insR rows p x i) y ↔ spS (fun a => (∃ i, i < rd ∧ a = rows i) ∨ a = x) y := by
  constructor
  · refine spS_in (fun a ⟨i, hi, e⟩ => spS_p ?_)
    unfold insR at e
    by_cases h1 : i < p
    · rw [if_pos h1] at e; exact Or.inl ⟨i, by omega, e⟩
    · by_cases h2 : i = p
      · rw [if_neg h1, if_pos h2] at e; exact Or.inr e
      · rw [if_neg h1, if_neg h2] at e; exact Or.inl ⟨i - 1, by omega, e⟩
  · refine spS_in (fun a ha => spS_p ?_)
    rcases ha with ⟨i, hi, e⟩ | e
    · by_cases h1 : i < p
      · exact ⟨i, by omega, by unfold insR; rw [if_pos h1]; exact e⟩
      · exact ⟨i + 1, by omega, by unfold insR; rw [if_neg (by omega), if_neg (by omega)]; exact e⟩
    · exact ⟨p, by omega, by unfold insR; rw [if_neg (by omega), if_pos rfl]; exact e⟩
theorem spS_congr {P Q : Nat → Prop} (h : ∀ y, spS P y ↔ spS Q y) (z y : Nat) : spS (fun a => P a ∨ a = z) y ↔ spS (fun a => Q a ∨ a = z) y := by
  rw [spS_ins, spS_ins, h, h]
/-- what is left of z comes in: then z is spanned too -/
theorem rowsS.ins {rd p z : Nat} {rows : Nat → Nat} {P : Nat → Prop} (h : rowsS rd rows P) (hp : p ≤ rd) (hx : rsn rows rd z ≠ 0) (h1 : ∀ i, i < p → rsn rows rd z ≤ rows i) (h2 : ∀ i, p ≤ i → i < rd → rows i < rsn rows rd z) : rowsS (rd + 1) (insR rows p (rsn rows rd z)) (fun a => P a ∨ a = z) := by
  refine ⟨insR_ok hp h.1 hx (fun tp t1 t2 => (rsn_ok (z := z) rd t1 t2).1) h1 h2, fun y => ?_⟩
  rw [insR_sp hp, spS_congr h.2, spS_ins, spS_ins]
  have hr := h.rsp z
  have e : ∀ y, spS P (y ^^^ rsn rows rd z) ↔ spS P (y ^^^ z) := fun y => ⟨fun h => by
    have := spS_x h hr
    rwa [xor_mid] at this, fun h => by
    have := spS_x h hr
    rwa [Nat.xor_comm z, xor_mid] at this⟩
  rw [e]
theorem rowsS.same {rd z : Nat} {rows : Nat → Nat} {P : Nat → Prop} (h : rowsS rd rows P) (hz : spS P z) : rowsS rd rows (fun a => P a ∨ a = z) := by
  refine ⟨h.1, fun y => ?_⟩
  rw [h.2, spS_ins]
  exact ⟨Or.inl, fun q => q.elim id (fun q => by have := spS_x q hz; rwa [xor_can] at this)⟩
/-- rows below 2 ^ b are b at most -/
theorem rowsOK_le {b : Nat} : ∀ {rd : Nat} {rows : Nat → Nat}, rowsOK rd rows → (∀ i, i < rd → rows i < 2 ^ b) → rd ≤ b := by
  intro rd rows ⟨tp, t1, t2⟩ hb
  have h0 : ∀ i, i < rd → tp i + i < b := by
    intro i
    induction i with
    | zero =>
      intro hi
      have h1 := Nat.ge_two_pow_of_testBit (t1 0 hi).1
      have h2 := hb 0 hi
      exact (Nat.pow_lt_pow_iff_right (by omega : 1 < 2)).mp (by show 2 ^ (tp 0 + 0) < 2 ^ b; rw [Nat.add_zero]; omega)
    | succ i ih =>
      intro hi
      have := ih (by omega)
      have := t2 i (i + 1) (by omega) hi
      omega
  rcases Nat.eq_zero_or_pos rd with h | h
  · omega
  · have := h0 (rd - 1) (by omega); omega
theorem rowsOK.mono {rd : Nat} {rows : Nat → Nat} (h : rowsOK rd rows) {i j : Nat} (hij : i < j) (hj : j < rd) : rows j < rows i := by
  obtain ⟨tp, t1, t2⟩ := h
  have h1 := (t1 j hj).2
  have h2 := Nat.ge_two_pow_of_testBit (t1 i (by omega)).1
  have h3 : 2 ^ (tp j + 1) ≤ 2 ^ tp i := Nat.pow_le_pow_right (by omega) (t2 i j hij hj)
  omega
theorem rowsS.cong {rd : Nat} {rows : Nat → Nat} {P Q : Nat → Prop} (h : rowsS rd rows P) (e : ∀ a, P a ↔ Q a) : rowsS rd rows Q := by
  have : P = Q := funext (fun a => propext (e a))
  rw [← this]; exact h
theorem lt_split {li : Nat → Nat} {i a : Nat} : ((∃ j, j < i ∧ a = li j) ∨ a = li i) ↔ ∃ j, j < i + 1 ∧ a = li j :=
  ⟨fun h => h.elim (fun ⟨j, hj, e⟩ => ⟨j, by omega, e⟩) (fun e => ⟨i, by omega, e⟩), fun ⟨j, hj, e⟩ => by
    by_cases hji : j = i
    · subst hji; exact Or.inr e
    · exact Or.inl ⟨j, by omega, e⟩⟩
/-- how many of the first k of a list are no sums of earlier ones -/
noncomputable def rk (li : Nat → Nat) : Nat → Nat
  | 0 => 0
  | k + 1 => rk li k + @ite Nat (spS (fun a => ∃ i, i < k ∧ a = li i) (li k)) (Classical.propDecidable _) 0 1
theorem rk_in {li : Nat → Nat} {k : Nat} (h : spS (fun a => ∃ i, i < k ∧ a = li i) (li k)) : rk li (k + 1) = rk li k := by
  simp only [rk]; rw [if_pos h, Nat.add_zero]
theorem rk_out {li : Nat → Nat} {k : Nat} (h : ¬ spS (fun a => ∃ i, i < k ∧ a = li i) (li k)) : rk li (k + 1) = rk li k + 1 := by
  simp only [rk]; rw [if_neg h]
/-- all edges but x; the edges apart from v -/
abbrev wo (m x : Nat) : Nat := fl m ^^^ 2 ^ x
theorem wo_bit {m x e : Nat} (he : e < m) : (wo m x).testBit e = true ↔ e ≠ x := by
  rw [Nat.testBit_xor, fl_bit]
  by_cases h : e = x
  · subst h; rw [Nat.testBit_two_pow_self]; simp [he]
  · rw [Nat.testBit_two_pow_of_ne (fun q => h q.symm)]; simp [he, h]
def ap (fr to : Nat → Nat) (m v : Nat) : Nat := nb (fun e => decide (fr e ≠ v ∧ to e ≠ v)) m
theorem ap_bit {fr to : Nat → Nat} {m v e : Nat} (he : e < m) : (ap fr to m v).testBit e = true ↔ fr e ≠ v ∧ to e ≠ v := by
  unfold ap; rw [nb_bit]; simp [he]
def alM (fr to : Nat → Nat) (nv ne k : Nat) : Nat := ct0 k (fun x => decide (gc nv (jRun fr to (fl ne) ne) < gc nv (jRun fr to (wo ne x) ne)))
def ptM (fr to : Nat → Nat) (nv ne k : Nat) : Nat := ct0 k (fun v => decide (gc nv (jRun fr to (fl ne) ne) + 1 < gc nv (jRun fr to (ap fr to ne v) ne)))
abbrev evM (fr to : Nat → Nat) (ne k : Nat) : Prop := ∀ i, i < k → sz (rgA fr to ne i) ne % 2 = 0
/-- what look answers -/
noncomputable def lkM (nv ne : Nat) (fr to : Nat → Nat) (L : Nat) (li : Nat → Nat) (k : Nat) : Nat :=
  if k = 0 then nv else if k = 1 then ne else if k = 2 then gc nv (jRun fr to (fl ne) ne) else if k = 3 then dmA fr to ne else if k = 4 then alM fr to nv ne ne else if k = 5 then (if evM fr to ne (dmA fr to ne) then 1 else 0) else if k = 6 then L else if k = 7 then rk li L else ptM fr to nv ne nv
end
section
-- counting: more than k independent numbers are never sums of k
theorem pig : ∀ (n : Nat) (f : Nat → Nat), (∀ i, i < n + 1 → f i < n) → ∃ i j, i < j ∧ j < n + 1 ∧ f i = f j
  | 0, f, h => absurd (h 0 (by omega)) (Nat.not_lt_zero _)
  | n + 1, f, h => by
    by_cases hv : ∃ i, i < n + 1 ∧ f i = f (n + 1)
    · obtain ⟨i, hi, e⟩ := hv; exact ⟨i, n + 1, hi, by omega, e⟩
    · have hv' : ∀ i, i < n + 1 → f i ≠ f (n + 1) := fun i hi e => hv ⟨i, hi, e⟩
      have hl := h (n + 1) (by omega)
      obtain ⟨i, j, hij, hj, e⟩ := pig n (fun i => if f i = n then f (n + 1) else f i) (fun i hi => by
        show (if f i = n then f (n + 1) else f i) < n
        have h1 := h i (by omega)
        have h2 := hv' i hi
        split
        · omega
        · omega)
      refine ⟨i, j, hij, by omega, ?_⟩
      have e : (if f i = n then f (n + 1) else f i) = (if f j = n then f (n + 1) else f j) := e
      have h1 := hv' i (by omega)
      have h2 := hv' j (by omega)
      by_cases a : f i = n <;> by_cases b : f j = n
      · rw [a, b]
      · rw [if_pos a, if_neg b] at e; exact absurd e.symm h2
      · rw [if_neg a, if_pos b] at e; exact absurd e h1
      · rw [if_neg a, if_neg b] at e; exact e
theorem pigM {M n : Nat} (hM : n < M) (f : Nat → Nat) (h : ∀ i, i < M → f i < n) : ∃ i j, i < j ∧ j < M ∧ f i = f j := by
  obtain ⟨i, j, a, b, c⟩ := pig n f (fun i hi => h i (by omega))
  exact ⟨i, j, a, by omega, c⟩
theorem cb_congr {r : Nat → Nat} {c c' : Nat} : ∀ {k}, (∀ i, i < k → c.testBit i = c'.testBit i) → cb r k c = cb r k c'
  | 0, _ => rfl
  | k + 1, h => by simp only [cb]; rw [cb_congr (fun i hi => h i (by omega)), h k (by omega)]
theorem cb_mod (r : Nat → Nat) (k c : Nat) : cb r k (c % 2 ^ k) = cb r k c := cb_congr (fun i hi => by rw [Nat.testBit_mod_two_pow]; simp [hi])
theorem sp_code {r : Nat → Nat} {k y : Nat} (h : spS (fun a => ∃ i, i < k ∧ a = r i) y) : ∃ c, c < 2 ^ k ∧ y = cb r k c := by
  obtain ⟨c, hc⟩ := cb_sp.mpr h
  exact ⟨c % 2 ^ k, Nat.mod_lt _ (Nat.two_pow_pos k), by rw [cb_mod]; exact hc⟩
theorem no_span {k d : Nat} (rows : Nat → Nat) (hk : k < d) : ∃ y, y < 2 ^ d ∧ ¬ spS (fun a => ∃ i, i < k ∧ a = rows i) y := by
  refine Classical.byContradiction (fun hn => ?_)
  have h1 : ∀ y, ∃ c, y < 2 ^ d → c < 2 ^ k ∧ y = cb rows k c := fun y => by
    by_cases hy : y < 2 ^ d
    · have : spS (fun a => ∃ i, i < k ∧ a = rows i) y := Classical.byContradiction (fun h => hn ⟨y, hy, h⟩)
      obtain ⟨c, a, b⟩ := sp_code this
      exact ⟨c, fun _ => ⟨a, b⟩⟩
    · exact ⟨0, fun h => absurd h hy⟩
  obtain ⟨i, j, a, b, e⟩ := pigM (Nat.pow_lt_pow_right (by omega : 1 < 2) hk) (fun y => Classical.choose (h1 y)) (fun y hy => (Classical.choose_spec (h1 y) hy).1)
  have e1 := (Classical.choose_spec (h1 i) (by omega)).2
  have e2 := (Classical.choose_spec (h1 j) b).2
  have e : Classical.choose (h1 i) = Classical.choose (h1 j) := e
  rw [e] at e1
  rw [← e2] at e1
  omega
/-- no sum of one or more is 0 -/
def ind (f : Nat → Nat) (k : Nat) : Prop := ∀ c, c < 2 ^ k → cb f k c = 0 → c = 0
theorem steinitz {f p : Nat → Nat} {k : Nat} (hf : ind f (k + 1)) (h : ∀ j, j < k + 1 → spS (fun a => ∃ i, i < k ∧ a = p i) (f j)) : False := by
  have h1 : ∀ c, ∃ d, d < 2 ^ k ∧ cb f (k + 1) c = cb p k d := fun c => sp_code (cb_in h)
  obtain ⟨i, j, a, b, e⟩ := pigM (Nat.pow_lt_pow_right (by omega : 1 < 2) (Nat.lt_succ_self k)) (fun c => Classical.choose (h1 c)) (fun c _ => (Classical.choose_spec (h1 c)).1)
  have e1 := (Classical.choose_spec (h1 i)).2
  have e2 := (Classical.choose_spec (h1 j)).2
  have e : Classical.choose (h1 i) = Classical.choose (h1 j) := e
  rw [e, ← e2] at e1
  have h0 : i ^^^ j = 0 := hf _ (Nat.xor_lt_two_pow (by omega) b) (by rw [cb_xor, e1, Nat.xor_self])
  have : i = j := by
    have := congrArg (fun x => x ^^^ j) h0
    simp only [xor_can, Nat.zero_xor] at this
    exact this
  omega
/-- what comes behind, each no sum of those before, is independent -/
theorem ind_of {f : Nat → Nat} : ∀ {k}, (∀ j, j < k → ¬ spS (fun a => ∃ i, i < j ∧ a = f i) (f j)) → ind f k
  | 0, _ => fun c hc _ => by omega
  | k + 1, h => by
    intro c hc h0
    have ih := ind_of (f := f) (k := k) (fun j hj => h j (by omega))
    simp only [cb] at h0
    cases hb : c.testBit k with
    | false =>
      rw [hb] at h0
      simp at h0
      have hlt : c < 2 ^ k := Nat.lt_pow_two_of_testBit _ (fun i hi => by
        by_cases e : i = k
        · rw [e]; exact hb
        · exact Nat.testBit_lt_two_pow (Nat.lt_of_lt_of_le hc (Nat.pow_le_pow_right (by omega) (by omega))))
      exact ih c hlt h0
    | true =>
      rw [hb, if_pos rfl] at h0
      refine absurd ?_ (h k (by omega))
      have e : f k = cb f k c := by
        have := congrArg (fun x => x ^^^ f k) h0
        simp only [xor_can, Nat.zero_xor] at this
        exact this.symm
      rw [e]
      exact cb_in (fun i hi => spS_p ⟨i, hi, rfl⟩)
/-- picked one behind the other, each the lightest of those below D that are no sums of the earlier ones -/
def grd (w : Nat → Nat) (D : Nat) (pk : Nat → Nat) (k : Nat) : Prop := ∀ j, j < k → pk j < D ∧ ¬ spS (fun a => ∃ i, i < j ∧ a = pk i) (pk j) ∧ ∀ x, x < D → ¬ spS (fun a => ∃ i, i < j ∧ a = pk i) x → w (pk j) ≤ w x
end

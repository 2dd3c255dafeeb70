theorem dX7_hasOddCycle_0 : decode cX7_hasOddCycle 0 = .ok (.aload_n 0, 1) := by decide +kernel
theorem dX7_hasOddCycle_1 : decode cX7_hasOddCycle 1 = .ok (.invokevirtual 176, 3) := by decide +kernel
theorem dX7_hasOddCycle_4 : decode cX7_hasOddCycle 4 = .ok (.istore_n 1, 1) := by decide +kernel
theorem dX7_hasOddCycle_5 : decode cX7_hasOddCycle 5 = .ok (.iconst 0, 1) := by decide +kernel
theorem dX7_hasOddCycle_6 : decode cX7_hasOddCycle 6 = .ok (.istore_n 2, 1) := by decide +kernel
theorem dX7_hasOddCycle_7 : decode cX7_hasOddCycle 7 = .ok (.iload_n 2, 1) := by decide +kernel
theorem dX7_hasOddCycle_8 : decode cX7_hasOddCycle 8 = .ok (.iload_n 1, 1) := by decide +kernel
theorem dX7_hasOddCycle_9 : decode cX7_hasOddCycle 9 = .ok (.if_icmp .ge 25, 3) := by decide +kernel
theorem dX7_hasOddCycle_12 : decode cX7_hasOddCycle 12 = .ok (.aload_n 0, 1) := by decide +kernel
theorem dX7_hasOddCycle_13 : decode cX7_hasOddCycle 13 = .ok (.getfield 58, 3) := by decide +kernel
theorem dX7_hasOddCycle_16 : decode cX7_hasOddCycle 16 = .ok (.iload_n 2, 1) := by decide +kernel
theorem dX7_hasOddCycle_17 : decode cX7_hasOddCycle 17 = .ok (.laload, 1) := by decide +kernel
theorem dX7_hasOddCycle_18 : decode cX7_hasOddCycle 18 = .ok (.invokestatic 246, 3) := by decide +kernel
theorem dX7_hasOddCycle_21 : decode cX7_hasOddCycle 21 = .ok (.iconst 2, 1) := by decide +kernel
theorem dX7_hasOddCycle_22 : decode cX7_hasOddCycle 22 = .ok (.irem, 1) := by decide +kernel
theorem dX7_hasOddCycle_23 : decode cX7_hasOddCycle 23 = .ok (.ifCond .eq 5, 3) := by decide +kernel
theorem dX7_hasOddCycle_26 : decode cX7_hasOddCycle 26 = .ok (.iconst 1, 1) := by decide +kernel
theorem dX7_hasOddCycle_27 : decode cX7_hasOddCycle 27 = .ok (.ireturn, 1) := by decide +kernel
theorem dX7_hasOddCycle_28 : decode cX7_hasOddCycle 28 = .ok (.iinc 2 1, 3) := by decide +kernel
theorem dX7_hasOddCycle_31 : decode cX7_hasOddCycle 31 = .ok (.goto (-24), 3) := by decide +kernel
theorem dX7_hasOddCycle_34 : decode cX7_hasOddCycle 34 = .ok (.iconst 0, 1) := by decide +kernel
theorem dX7_hasOddCycle_35 : decode cX7_hasOddCycle 35 = .ok (.ireturn, 1) := by decide +kernel
set_option maxRecDepth 20000 in
theorem ggX7_countCuttingVertices_X7_countGroups : GoodIn wsX7_countCuttingVertices wsX7_countGroups := goodIn_r _ [7, 2, 8, 9, 10, 6, 11, 1, 12, 13, 14, 15, 16, 17, 18, 19, 20, 21, 22, 23, 24, 25, 26, 27, 28, 29, 30, 31, 32, 33, 34, 35, 36, 37, 38, 39, 48, 49, 50, 51, 52, 53, 54, 55, 61, 62, 63, 64, 56, 57, 58, 59, 60] (by decide +kernel) (by decide +kernel)
set_option maxRecDepth 20000 in
theorem gX7_countCuttingVertices_X7_countGroups : GoodIn wsX7_countCuttingVertices (wsV RX7 208 RX7 yX7_countGroups wsX7_countGroups) := goodIn_app (goodIn_of _ (by decide +kernel)) ggX7_countCuttingVertices_X7_countGroups
set_option maxRecDepth 20000 in
theorem ggX7_countCuttingVertices_X2_edgesApartFrom : GoodIn wsX7_countCuttingVertices wsX2_edgesApartFrom := goodIn_r _ [44, 45, 46, 47, 56, 57, 58, 59, 60] (by decide +kernel) (by decide +kernel)
set_option maxRecDepth 20000 in
theorem gX7_countCuttingVertices_X2_edgesApartFrom : GoodIn wsX7_countCuttingVertices (wsV RX7 251 RX2 yX2_edgesApartFrom wsX2_edgesApartFrom) := goodIn_app (goodIn_of _ (by decide +kernel)) ggX7_countCuttingVertices_X2_edgesApartFrom
set_option maxRecDepth 20000 in
theorem ggX7_countCuttingVertices_X7_joinSet : GoodIn wsX7_countCuttingVertices wsX7_joinSet := goodIn_r _ [15, 2, 1, 16, 17, 18, 19, 20, 21, 22, 23, 24, 25, 26, 6, 27, 28, 29, 30, 31, 32, 33, 34, 35, 36, 37, 38, 39, 48, 49, 50, 51, 52, 53, 54, 55, 56, 57, 58, 59, 60, 61, 62, 63, 64] (by decide +kernel) (by decide +kernel)
set_option maxRecDepth 20000 in
theorem gX7_countCuttingVertices_X7_joinSet : GoodIn wsX7_countCuttingVertices (wsV RX7 114 RX7 yX7_joinSet wsX7_joinSet) := goodIn_app (goodIn_of _ (by decide +kernel)) ggX7_countCuttingVertices_X7_joinSet
theorem dX7_countCuttingVertices_0 : decode cX7_countCuttingVertices 0 = .ok (.aload_n 0, 1) := by decide +kernel
theorem dX7_countCuttingVertices_1 : decode cX7_countCuttingVertices 1 = .ok (.invokevirtual 208, 3) := by decide +kernel
theorem dX7_countCuttingVertices_4 : decode cX7_countCuttingVertices 4 = .ok (.istore_n 1, 1) := by decide +kernel
theorem dX7_countCuttingVertices_5 : decode cX7_countCuttingVertices 5 = .ok (.iconst 0, 1) := by decide +kernel
theorem dX7_countCuttingVertices_6 : decode cX7_countCuttingVertices 6 = .ok (.istore_n 2, 1) := by decide +kernel
theorem dX7_countCuttingVertices_7 : decode cX7_countCuttingVertices 7 = .ok (.iconst 0, 1) := by decide +kernel
theorem dX7_countCuttingVertices_8 : decode cX7_countCuttingVertices 8 = .ok (.istore_n 3, 1) := by decide +kernel
theorem dX7_countCuttingVertices_9 : decode cX7_countCuttingVertices 9 = .ok (.iload_n 3, 1) := by decide +kernel
theorem dX7_countCuttingVertices_10 : decode cX7_countCuttingVertices 10 = .ok (.aload_n 0, 1) := by decide +kernel
theorem dX7_countCuttingVertices_11 : decode cX7_countCuttingVertices 11 = .ok (.getfield 10, 3) := by decide +kernel
theorem dX7_countCuttingVertices_14 : decode cX7_countCuttingVertices 14 = .ok (.getfield 205, 3) := by decide +kernel
theorem dX7_countCuttingVertices_17 : decode cX7_countCuttingVertices 17 = .ok (.if_icmp .ge 38, 3) := by decide +kernel
theorem dX7_countCuttingVertices_20 : decode cX7_countCuttingVertices 20 = .ok (.aload_n 0, 1) := by decide +kernel
theorem dX7_countCuttingVertices_21 : decode cX7_countCuttingVertices 21 = .ok (.aload_n 0, 1) := by decide +kernel
theorem dX7_countCuttingVertices_22 : decode cX7_countCuttingVertices 22 = .ok (.getfield 10, 3) := by decide +kernel
theorem dX7_countCuttingVertices_25 : decode cX7_countCuttingVertices 25 = .ok (.iload_n 3, 1) := by decide +kernel
theorem dX7_countCuttingVertices_26 : decode cX7_countCuttingVertices 26 = .ok (.invokevirtual 251, 3) := by decide +kernel
theorem dX7_countCuttingVertices_29 : decode cX7_countCuttingVertices 29 = .ok (.invokevirtual 114, 3) := by decide +kernel
theorem dX7_countCuttingVertices_32 : decode cX7_countCuttingVertices 32 = .ok (.pop, 1) := by decide +kernel
theorem dX7_countCuttingVertices_33 : decode cX7_countCuttingVertices 33 = .ok (.aload_n 0, 1) := by decide +kernel
theorem dX7_countCuttingVertices_34 : decode cX7_countCuttingVertices 34 = .ok (.getfield 26, 3) := by decide +kernel
theorem dX7_countCuttingVertices_37 : decode cX7_countCuttingVertices 37 = .ok (.getfield 244, 3) := by decide +kernel
theorem dX7_countCuttingVertices_40 : decode cX7_countCuttingVertices 40 = .ok (.iconst 1, 1) := by decide +kernel
theorem dX7_countCuttingVertices_41 : decode cX7_countCuttingVertices 41 = .ok (.isub, 1) := by decide +kernel
theorem dX7_countCuttingVertices_42 : decode cX7_countCuttingVertices 42 = .ok (.iload_n 1, 1) := by decide +kernel
theorem dX7_countCuttingVertices_43 : decode cX7_countCuttingVertices 43 = .ok (.if_icmp .le 6, 3) := by decide +kernel
theorem dX7_countCuttingVertices_46 : decode cX7_countCuttingVertices 46 = .ok (.iinc 2 1, 3) := by decide +kernel
theorem dX7_countCuttingVertices_49 : decode cX7_countCuttingVertices 49 = .ok (.iinc 3 1, 3) := by decide +kernel
theorem dX7_countCuttingVertices_52 : decode cX7_countCuttingVertices 52 = .ok (.goto (-43), 3) := by decide +kernel
theorem dX7_countCuttingVertices_55 : decode cX7_countCuttingVertices 55 = .ok (.iload_n 2, 1) := by decide +kernel
theorem dX7_countCuttingVertices_56 : decode cX7_countCuttingVertices 56 = .ok (.ireturn, 1) := by decide +kernel
theorem dX8_init_0 : decode cX8_init 0 = .ok (.aload_n 0, 1) := by decide +kernel
theorem dX8_init_1 : decode cX8_init 1 = .ok (.invokespecial 1, 3) := by decide +kernel
theorem dX8_init_4 : decode cX8_init 4 = .ok (.aload_n 0, 1) := by decide +kernel
theorem dX8_init_5 : decode cX8_init 5 = .ok (.iconst 1, 1) := by decide +kernel
theorem dX8_init_6 : decode cX8_init 6 = .ok (.putfield 7, 3) := by decide +kernel
theorem dX8_init_9 : decode cX8_init 9 = .ok (.aload_n 0, 1) := by decide +kernel
theorem dX8_init_10 : decode cX8_init 10 = .ok (.bipush 40, 2) := by decide +kernel
theorem dX8_init_12 : decode cX8_init 12 = .ok (.newarray .int, 2) := by decide +kernel
theorem dX8_init_14 : decode cX8_init 14 = .ok (.putfield 13, 3) := by decide +kernel
theorem dX8_init_17 : decode cX8_init 17 = .ok (.aload_n 0, 1) := by decide +kernel
theorem dX8_init_18 : decode cX8_init 18 = .ok (.bipush 40, 2) := by decide +kernel
theorem dX8_init_20 : decode cX8_init 20 = .ok (.newarray .int, 2) := by decide +kernel
theorem dX8_init_22 : decode cX8_init 22 = .ok (.putfield 17, 3) := by decide +kernel
theorem dX8_init_25 : decode cX8_init 25 = .ok (.aload_n 0, 1) := by decide +kernel
theorem dX8_init_26 : decode cX8_init 26 = .ok (.bipush 40, 2) := by decide +kernel
theorem dX8_init_28 : decode cX8_init 28 = .ok (.newarray .int, 2) := by decide +kernel
theorem dX8_init_30 : decode cX8_init 30 = .ok (.putfield 20, 3) := by decide +kernel
theorem dX8_init_33 : decode cX8_init 33 = .ok (.aload_n 0, 1) := by decide +kernel
theorem dX8_init_34 : decode cX8_init 34 = .ok (.bipush 64, 2) := by decide +kernel
theorem dX8_init_36 : decode cX8_init 36 = .ok (.newarray .long, 2) := by decide +kernel
theorem dX8_init_38 : decode cX8_init 38 = .ok (.putfield 23, 3) := by decide +kernel
theorem dX8_init_41 : decode cX8_init 41 = .ok (.aload_n 0, 1) := by decide +kernel
theorem dX8_init_42 : decode cX8_init 42 = .ok (.bipush 16, 2) := by decide +kernel
theorem dX8_init_44 : decode cX8_init 44 = .ok (.newarray .int, 2) := by decide +kernel
theorem dX8_init_46 : decode cX8_init 46 = .ok (.putfield 27, 3) := by decide +kernel
theorem dX8_init_49 : decode cX8_init 49 = .ok (.aload_n 0, 1) := by decide +kernel
theorem dX8_init_50 : decode cX8_init 50 = .ok (.bipush 16, 2) := by decide +kernel
theorem dX8_init_52 : decode cX8_init 52 = .ok (.newarray .long, 2) := by decide +kernel
theorem dX8_init_54 : decode cX8_init 54 = .ok (.putfield 30, 3) := by decide +kernel
theorem dX8_init_57 : decode cX8_init 57 = .ok (.aload_n 0, 1) := by decide +kernel
theorem dX8_init_58 : decode cX8_init 58 = .ok (.bipush 40, 2) := by decide +kernel
theorem dX8_init_60 : decode cX8_init 60 = .ok (.newarray .long, 2) := by decide +kernel
theorem dX8_init_62 : decode cX8_init 62 = .ok (.putfield 33, 3) := by decide +kernel
theorem dX8_init_65 : decode cX8_init 65 = .ok (.aload_n 0, 1) := by decide +kernel
theorem dX8_init_66 : decode cX8_init 66 = .ok (.bipush 40, 2) := by decide +kernel
theorem dX8_init_68 : decode cX8_init 68 = .ok (.newarray .int, 2) := by decide +kernel
theorem dX8_init_70 : decode cX8_init 70 = .ok (.putfield 36, 3) := by decide +kernel
theorem dX8_init_73 : decode cX8_init 73 = .ok (.aload_n 0, 1) := by decide +kernel
theorem dX8_init_74 : decode cX8_init 74 = .ok (.sipush 16384, 3) := by decide +kernel
theorem dX8_init_77 : decode cX8_init 77 = .ok (.newarray .long, 2) := by decide +kernel
theorem dX8_init_79 : decode cX8_init 79 = .ok (.putfield 39, 3) := by decide +kernel
theorem dX8_init_82 : decode cX8_init 82 = .ok (.aload_n 0, 1) := by decide +kernel
theorem dX8_init_83 : decode cX8_init 83 = .ok (.sipush 16384, 3) := by decide +kernel
theorem dX8_init_86 : decode cX8_init 86 = .ok (.newarray .long, 2) := by decide +kernel
theorem dX8_init_88 : decode cX8_init 88 = .ok (.putfield 42, 3) := by decide +kernel
theorem dX8_init_91 : decode cX8_init 91 = .ok (.aload_n 0, 1) := by decide +kernel
theorem dX8_init_92 : decode cX8_init 92 = .ok (.bipush 64, 2) := by decide +kernel
theorem dX8_init_94 : decode cX8_init 94 = .ok (.newarray .long, 2) := by decide +kernel
theorem dX8_init_96 : decode cX8_init 96 = .ok (.putfield 45, 3) := by decide +kernel
theorem dX8_init_99 : decode cX8_init 99 = .ok (.aload_n 0, 1) := by decide +kernel
theorem dX8_init_100 : decode cX8_init 100 = .ok (.sipush 256, 3) := by decide +kernel
theorem dX8_init_103 : decode cX8_init 103 = .ok (.newarray .long, 2) := by decide +kernel
theorem dX8_init_105 : decode cX8_init 105 = .ok (.putfield 48, 3) := by decide +kernel
theorem dX8_init_108 : decode cX8_init 108 = .ok (.aload_n 0, 1) := by decide +kernel
theorem dX8_init_109 : decode cX8_init 109 = .ok (.bipush 16, 2) := by decide +kernel
theorem dX8_init_111 : decode cX8_init 111 = .ok (.newarray .int, 2) := by decide +kernel
theorem dX8_init_113 : decode cX8_init 113 = .ok (.putfield 51, 3) := by decide +kernel
theorem dX8_init_116 : decode cX8_init 116 = .ok (.aload_n 0, 1) := by decide +kernel
theorem dX8_init_117 : decode cX8_init 117 = .ok (.bipush 16, 2) := by decide +kernel
theorem dX8_init_119 : decode cX8_init 119 = .ok (.newarray .boolean, 2) := by decide +kernel
theorem dX8_init_121 : decode cX8_init 121 = .ok (.putfield 54, 3) := by decide +kernel
theorem dX8_init_124 : decode cX8_init 124 = .ok (.return_, 1) := by decide +kernel
theorem dX8_thrown_0 : decode cX8_thrown 0 = .ok (.aload_n 0, 1) := by decide +kernel
theorem dX8_thrown_1 : decode cX8_thrown 1 = .ok (.getfield 58, 3) := by decide +kernel
theorem dX8_thrown_4 : decode cX8_thrown 4 = .ok (.ireturn, 1) := by decide +kernel
theorem dX8_throwing_0 : decode cX8_throwing 0 = .ok (.aload_n 0, 1) := by decide +kernel
theorem dX8_throwing_1 : decode cX8_throwing 1 = .ok (.iload_n 1, 1) := by decide +kernel
theorem dX8_throwing_2 : decode cX8_throwing 2 = .ok (.ifCond .eq 7, 3) := by decide +kernel
theorem dX8_throwing_5 : decode cX8_throwing 5 = .ok (.iconst 1, 1) := by decide +kernel
theorem dX8_throwing_6 : decode cX8_throwing 6 = .ok (.goto 12, 3) := by decide +kernel
theorem dX8_throwing_9 : decode cX8_throwing 9 = .ok (.iload_n 2, 1) := by decide +kernel
theorem dX8_throwing_10 : decode cX8_throwing 10 = .ok (.ifCond .eq 7, 3) := by decide +kernel
theorem dX8_throwing_13 : decode cX8_throwing 13 = .ok (.iconst 2, 1) := by decide +kernel
theorem dX8_throwing_14 : decode cX8_throwing 14 = .ok (.goto 4, 3) := by decide +kernel
theorem dX8_throwing_17 : decode cX8_throwing 17 = .ok (.iconst 0, 1) := by decide +kernel
theorem dX8_throwing_18 : decode cX8_throwing 18 = .ok (.putfield 58, 3) := by decide +kernel
theorem dX8_throwing_21 : decode cX8_throwing 21 = .ok (.aload_n 0, 1) := by decide +kernel
theorem dX8_throwing_22 : decode cX8_throwing 22 = .ok (.getfield 58, 3) := by decide +kernel
theorem dX8_throwing_25 : decode cX8_throwing 25 = .ok (.ifCond .le 7, 3) := by decide +kernel
theorem dX8_throwing_28 : decode cX8_throwing 28 = .ok (.iconst 1, 1) := by decide +kernel
theorem dX8_throwing_29 : decode cX8_throwing 29 = .ok (.goto 4, 3) := by decide +kernel
theorem dX8_throwing_32 : decode cX8_throwing 32 = .ok (.iconst 0, 1) := by decide +kernel
theorem dX8_throwing_33 : decode cX8_throwing 33 = .ok (.ireturn, 1) := by decide +kernel
theorem dX8_isVertex_0 : decode cX8_isVertex 0 = .ok (.iload_n 1, 1) := by decide +kernel
theorem dX8_isVertex_1 : decode cX8_isVertex 1 = .ok (.ifCond .lt 15, 3) := by decide +kernel
theorem dX8_isVertex_4 : decode cX8_isVertex 4 = .ok (.iload_n 1, 1) := by decide +kernel
theorem dX8_isVertex_5 : decode cX8_isVertex 5 = .ok (.aload_n 0, 1) := by decide +kernel
theorem dX8_isVertex_6 : decode cX8_isVertex 6 = .ok (.getfield 7, 3) := by decide +kernel
theorem dX8_isVertex_9 : decode cX8_isVertex 9 = .ok (.if_icmp .ge 7, 3) := by decide +kernel
theorem dX8_isVertex_12 : decode cX8_isVertex 12 = .ok (.iconst 1, 1) := by decide +kernel
theorem dX8_isVertex_13 : decode cX8_isVertex 13 = .ok (.goto 4, 3) := by decide +kernel
theorem dX8_isVertex_16 : decode cX8_isVertex 16 = .ok (.iconst 0, 1) := by decide +kernel
theorem dX8_isVertex_17 : decode cX8_isVertex 17 = .ok (.ireturn, 1) := by decide +kernel
theorem dX8_isSet_0 : decode cX8_isSet 0 = .ok (.lload_n 1, 1) := by decide +kernel
theorem dX8_isSet_1 : decode cX8_isSet 1 = .ok (.aload_n 0, 1) := by decide +kernel
theorem dX8_isSet_2 : decode cX8_isSet 2 = .ok (.getfield 61, 3) := by decide +kernel
theorem dX8_isSet_5 : decode cX8_isSet 5 = .ok (.lushr, 1) := by decide +kernel
theorem dX8_isSet_6 : decode cX8_isSet 6 = .ok (.lconst 0, 1) := by decide +kernel
theorem dX8_isSet_7 : decode cX8_isSet 7 = .ok (.lcmp, 1) := by decide +kernel
theorem dX8_isSet_8 : decode cX8_isSet 8 = .ok (.ifCond .ne 7, 3) := by decide +kernel
theorem dX8_isSet_11 : decode cX8_isSet 11 = .ok (.iconst 1, 1) := by decide +kernel
theorem dX8_isSet_12 : decode cX8_isSet 12 = .ok (.goto 4, 3) := by decide +kernel
theorem dX8_isSet_15 : decode cX8_isSet 15 = .ok (.iconst 0, 1) := by decide +kernel
theorem dX8_isSet_16 : decode cX8_isSet 16 = .ok (.ireturn, 1) := by decide +kernel
theorem dX8_beginGroups_0 : decode cX8_beginGroups 0 = .ok (.aload_n 0, 1) := by decide +kernel
theorem dX8_beginGroups_1 : decode cX8_beginGroups 1 = .ok (.iconst 0, 1) := by decide +kernel
theorem dX8_beginGroups_2 : decode cX8_beginGroups 2 = .ok (.putfield 64, 3) := by decide +kernel
theorem dX8_beginGroups_5 : decode cX8_beginGroups 5 = .ok (.iconst 0, 1) := by decide +kernel
theorem dX8_beginGroups_6 : decode cX8_beginGroups 6 = .ok (.istore_n 1, 1) := by decide +kernel
theorem dX8_beginGroups_7 : decode cX8_beginGroups 7 = .ok (.iload_n 1, 1) := by decide +kernel
theorem dX8_beginGroups_8 : decode cX8_beginGroups 8 = .ok (.bipush 16, 2) := by decide +kernel
theorem dX8_beginGroups_10 : decode cX8_beginGroups 10 = .ok (.if_icmp .ge 23, 3) := by decide +kernel
theorem dX8_beginGroups_13 : decode cX8_beginGroups 13 = .ok (.aload_n 0, 1) := by decide +kernel
theorem dX8_beginGroups_14 : decode cX8_beginGroups 14 = .ok (.getfield 27, 3) := by decide +kernel
theorem dX8_beginGroups_17 : decode cX8_beginGroups 17 = .ok (.iload_n 1, 1) := by decide +kernel
theorem dX8_beginGroups_18 : decode cX8_beginGroups 18 = .ok (.iload_n 1, 1) := by decide +kernel
theorem dX8_beginGroups_19 : decode cX8_beginGroups 19 = .ok (.iastore, 1) := by decide +kernel
theorem dX8_beginGroups_20 : decode cX8_beginGroups 20 = .ok (.aload_n 0, 1) := by decide +kernel
theorem dX8_beginGroups_21 : decode cX8_beginGroups 21 = .ok (.getfield 30, 3) := by decide +kernel
theorem dX8_beginGroups_24 : decode cX8_beginGroups 24 = .ok (.iload_n 1, 1) := by decide +kernel
theorem dX8_beginGroups_25 : decode cX8_beginGroups 25 = .ok (.lconst 0, 1) := by decide +kernel
theorem dX8_beginGroups_26 : decode cX8_beginGroups 26 = .ok (.lastore, 1) := by decide +kernel
theorem dX8_beginGroups_27 : decode cX8_beginGroups 27 = .ok (.iinc 1 1, 3) := by decide +kernel
theorem dX8_beginGroups_30 : decode cX8_beginGroups 30 = .ok (.goto (-23), 3) := by decide +kernel
theorem dX8_beginGroups_33 : decode cX8_beginGroups 33 = .ok (.return_, 1) := by decide +kernel
theorem dX8_joins_0 : decode cX8_joins 0 = .ok (.aload_n 0, 1) := by decide +kernel
theorem dX8_joins_1 : decode cX8_joins 1 = .ok (.getfield 13, 3) := by decide +kernel
theorem dX8_joins_4 : decode cX8_joins 4 = .ok (.iload_n 1, 1) := by decide +kernel
theorem dX8_joins_5 : decode cX8_joins 5 = .ok (.iaload, 1) := by decide +kernel
theorem dX8_joins_6 : decode cX8_joins 6 = .ok (.istore_n 2, 1) := by decide +kernel
theorem dX8_joins_7 : decode cX8_joins 7 = .ok (.aload_n 0, 1) := by decide +kernel
theorem dX8_joins_8 : decode cX8_joins 8 = .ok (.getfield 17, 3) := by decide +kernel
theorem dX8_joins_11 : decode cX8_joins 11 = .ok (.iload_n 1, 1) := by decide +kernel
theorem dX8_joins_12 : decode cX8_joins 12 = .ok (.iaload, 1) := by decide +kernel
theorem dX8_joins_13 : decode cX8_joins 13 = .ok (.istore_n 3, 1) := by decide +kernel
theorem dX8_joins_14 : decode cX8_joins 14 = .ok (.aload_n 0, 1) := by decide +kernel
theorem dX8_joins_15 : decode cX8_joins 15 = .ok (.getfield 27, 3) := by decide +kernel
theorem dX8_joins_18 : decode cX8_joins 18 = .ok (.iload_n 2, 1) := by decide +kernel
theorem dX8_joins_19 : decode cX8_joins 19 = .ok (.iaload, 1) := by decide +kernel
theorem dX8_joins_20 : decode cX8_joins 20 = .ok (.aload_n 0, 1) := by decide +kernel
theorem dX8_joins_21 : decode cX8_joins 21 = .ok (.getfield 27, 3) := by decide +kernel
theorem dX8_joins_24 : decode cX8_joins 24 = .ok (.iload_n 3, 1) := by decide +kernel
theorem dX8_joins_25 : decode cX8_joins 25 = .ok (.iaload, 1) := by decide +kernel
theorem dX8_joins_26 : decode cX8_joins 26 = .ok (.if_icmp .ne 51, 3) := by decide +kernel
theorem dX8_joins_29 : decode cX8_joins 29 = .ok (.aload_n 0, 1) := by decide +kernel
theorem dX8_joins_30 : decode cX8_joins 30 = .ok (.getfield 33, 3) := by decide +kernel
theorem dX8_joins_33 : decode cX8_joins 33 = .ok (.aload_n 0, 1) := by decide +kernel
theorem dX8_joins_34 : decode cX8_joins 34 = .ok (.getfield 64, 3) := by decide +kernel
theorem dX8_joins_37 : decode cX8_joins 37 = .ok (.aload_n 0, 1) := by decide +kernel
theorem dX8_joins_38 : decode cX8_joins 38 = .ok (.getfield 30, 3) := by decide +kernel
theorem dX8_joins_41 : decode cX8_joins 41 = .ok (.iload_n 2, 1) := by decide +kernel
theorem dX8_joins_42 : decode cX8_joins 42 = .ok (.laload, 1) := by decide +kernel
theorem dX8_joins_43 : decode cX8_joins 43 = .ok (.aload_n 0, 1) := by decide +kernel
theorem dX8_joins_44 : decode cX8_joins 44 = .ok (.getfield 30, 3) := by decide +kernel
theorem dX8_joins_47 : decode cX8_joins 47 = .ok (.iload_n 3, 1) := by decide +kernel
theorem dX8_joins_48 : decode cX8_joins 48 = .ok (.laload, 1) := by decide +kernel
theorem dX8_joins_49 : decode cX8_joins 49 = .ok (.lxor, 1) := by decide +kernel
theorem dX8_joins_50 : decode cX8_joins 50 = .ok (.lconst 1, 1) := by decide +kernel
theorem dX8_joins_51 : decode cX8_joins 51 = .ok (.iload_n 1, 1) := by decide +kernel
theorem dX8_joins_52 : decode cX8_joins 52 = .ok (.lshl, 1) := by decide +kernel
theorem dX8_joins_53 : decode cX8_joins 53 = .ok (.lxor, 1) := by decide +kernel
theorem dX8_joins_54 : decode cX8_joins 54 = .ok (.lastore, 1) := by decide +kernel
theorem dX8_joins_55 : decode cX8_joins 55 = .ok (.aload_n 0, 1) := by decide +kernel
theorem dX8_joins_56 : decode cX8_joins 56 = .ok (.getfield 36, 3) := by decide +kernel
theorem dX8_joins_59 : decode cX8_joins 59 = .ok (.aload_n 0, 1) := by decide +kernel
theorem dX8_joins_60 : decode cX8_joins 60 = .ok (.getfield 64, 3) := by decide +kernel
theorem dX8_joins_63 : decode cX8_joins 63 = .ok (.iload_n 1, 1) := by decide +kernel
theorem dX8_joins_64 : decode cX8_joins 64 = .ok (.iastore, 1) := by decide +kernel
theorem dX8_joins_65 : decode cX8_joins 65 = .ok (.aload_n 0, 1) := by decide +kernel
theorem dX8_joins_66 : decode cX8_joins 66 = .ok (.dup, 1) := by decide +kernel
theorem dX8_joins_67 : decode cX8_joins 67 = .ok (.getfield 64, 3) := by decide +kernel
theorem dX8_joins_70 : decode cX8_joins 70 = .ok (.iconst 1, 1) := by decide +kernel
theorem dX8_joins_71 : decode cX8_joins 71 = .ok (.iadd, 1) := by decide +kernel
theorem dX8_joins_72 : decode cX8_joins 72 = .ok (.putfield 64, 3) := by decide +kernel
theorem dX8_joins_75 : decode cX8_joins 75 = .ok (.iconst 0, 1) := by decide +kernel
theorem dX8_joins_76 : decode cX8_joins 76 = .ok (.ireturn, 1) := by decide +kernel
theorem dX8_joins_77 : decode cX8_joins 77 = .ok (.aload_n 0, 1) := by decide +kernel
theorem dX8_joins_78 : decode cX8_joins 78 = .ok (.getfield 27, 3) := by decide +kernel
theorem dX8_joins_81 : decode cX8_joins 81 = .ok (.iload_n 3, 1) := by decide +kernel
theorem dX8_joins_82 : decode cX8_joins 82 = .ok (.iaload, 1) := by decide +kernel
theorem dX8_joins_83 : decode cX8_joins 83 = .ok (.istore 4, 2) := by decide +kernel
theorem dX8_joins_85 : decode cX8_joins 85 = .ok (.aload_n 0, 1) := by decide +kernel
theorem dX8_joins_86 : decode cX8_joins 86 = .ok (.getfield 30, 3) := by decide +kernel
theorem dX8_joins_89 : decode cX8_joins 89 = .ok (.iload_n 2, 1) := by decide +kernel
theorem dX8_joins_90 : decode cX8_joins 90 = .ok (.laload, 1) := by decide +kernel
theorem dX8_joins_91 : decode cX8_joins 91 = .ok (.aload_n 0, 1) := by decide +kernel
theorem dX8_joins_92 : decode cX8_joins 92 = .ok (.getfield 30, 3) := by decide +kernel
theorem dX8_joins_95 : decode cX8_joins 95 = .ok (.iload_n 3, 1) := by decide +kernel
theorem dX8_joins_96 : decode cX8_joins 96 = .ok (.laload, 1) := by decide +kernel
theorem dX8_joins_97 : decode cX8_joins 97 = .ok (.lxor, 1) := by decide +kernel
theorem dX8_joins_98 : decode cX8_joins 98 = .ok (.lconst 1, 1) := by decide +kernel
theorem dX8_joins_99 : decode cX8_joins 99 = .ok (.iload_n 1, 1) := by decide +kernel
theorem dX8_joins_100 : decode cX8_joins 100 = .ok (.lshl, 1) := by decide +kernel
theorem dX8_joins_101 : decode cX8_joins 101 = .ok (.lxor, 1) := by decide +kernel
theorem dX8_joins_102 : decode cX8_joins 102 = .ok (.lstore 5, 2) := by decide +kernel
theorem dX8_joins_104 : decode cX8_joins 104 = .ok (.iconst 0, 1) := by decide +kernel
theorem dX8_joins_105 : decode cX8_joins 105 = .ok (.istore 7, 2) := by decide +kernel
theorem dX8_joins_107 : decode cX8_joins 107 = .ok (.iload 7, 2) := by decide +kernel
theorem dX8_joins_109 : decode cX8_joins 109 = .ok (.aload_n 0, 1) := by decide +kernel
theorem dX8_joins_110 : decode cX8_joins 110 = .ok (.getfield 7, 3) := by decide +kernel
theorem dX8_joins_113 : decode cX8_joins 113 = .ok (.if_icmp .ge 49, 3) := by decide +kernel
theorem dX8_joins_116 : decode cX8_joins 116 = .ok (.aload_n 0, 1) := by decide +kernel
theorem dX8_joins_117 : decode cX8_joins 117 = .ok (.getfield 27, 3) := by decide +kernel
theorem dX8_joins_120 : decode cX8_joins 120 = .ok (.iload 7, 2) := by decide +kernel
theorem dX8_joins_122 : decode cX8_joins 122 = .ok (.iaload, 1) := by decide +kernel
theorem dX8_joins_123 : decode cX8_joins 123 = .ok (.iload 4, 2) := by decide +kernel
theorem dX8_joins_125 : decode cX8_joins 125 = .ok (.if_icmp .eq 6, 3) := by decide +kernel
theorem dX8_joins_128 : decode cX8_joins 128 = .ok (.goto 28, 3) := by decide +kernel
theorem dX8_joins_131 : decode cX8_joins 131 = .ok (.aload_n 0, 1) := by decide +kernel
theorem dX8_joins_132 : decode cX8_joins 132 = .ok (.getfield 27, 3) := by decide +kernel
theorem dX8_joins_135 : decode cX8_joins 135 = .ok (.iload 7, 2) := by decide +kernel
theorem dX8_joins_137 : decode cX8_joins 137 = .ok (.aload_n 0, 1) := by decide +kernel
theorem dX8_joins_138 : decode cX8_joins 138 = .ok (.getfield 27, 3) := by decide +kernel
theorem dX8_joins_141 : decode cX8_joins 141 = .ok (.iload_n 2, 1) := by decide +kernel
theorem dX8_joins_142 : decode cX8_joins 142 = .ok (.iaload, 1) := by decide +kernel
theorem dX8_joins_143 : decode cX8_joins 143 = .ok (.iastore, 1) := by decide +kernel
theorem dX8_joins_144 : decode cX8_joins 144 = .ok (.aload_n 0, 1) := by decide +kernel
theorem dX8_joins_145 : decode cX8_joins 145 = .ok (.getfield 30, 3) := by decide +kernel
theorem dX8_joins_148 : decode cX8_joins 148 = .ok (.iload 7, 2) := by decide +kernel
theorem dX8_joins_150 : decode cX8_joins 150 = .ok (.dup2, 1) := by decide +kernel
theorem dX8_joins_151 : decode cX8_joins 151 = .ok (.laload, 1) := by decide +kernel
theorem dX8_joins_152 : decode cX8_joins 152 = .ok (.lload 5, 2) := by decide +kernel
theorem dX8_joins_154 : decode cX8_joins 154 = .ok (.lxor, 1) := by decide +kernel
theorem dX8_joins_155 : decode cX8_joins 155 = .ok (.lastore, 1) := by decide +kernel
theorem dX8_joins_156 : decode cX8_joins 156 = .ok (.iinc 7 1, 3) := by decide +kernel
theorem dX8_joins_159 : decode cX8_joins 159 = .ok (.goto (-52), 3) := by decide +kernel
theorem dX8_joins_162 : decode cX8_joins 162 = .ok (.iconst 1, 1) := by decide +kernel
theorem dX8_joins_163 : decode cX8_joins 163 = .ok (.ireturn, 1) := by decide +kernel
set_option maxRecDepth 20000 in
theorem ggX8_groups_X8_beginGroups : GoodIn wsX8_groups wsX8_beginGroups := goodIn_r _ [7, 8, 9, 10, 19, 20, 21, 22, 23, 24, 25, 26, 27, 28, 29, 30, 31, 32, 33, 34, 35, 36, 37, 38] (by decide +kernel) (by decide +kernel)
set_option maxRecDepth 20000 in
theorem gX8_groups_X8_beginGroups : GoodIn wsX8_groups (wsV RX8 67 RX8 yX8_beginGroups wsX8_beginGroups) := goodIn_app (goodIn_of _ (by decide +kernel)) ggX8_groups_X8_beginGroups
set_option maxRecDepth 20000 in
theorem ggX8_groups_X8_joins : GoodIn wsX8_groups wsX8_joins := goodIn_r _ [14, 15, 16, 9, 17, 8, 10, 18, 1, 19, 20, 21, 22, 23, 24, 25, 26, 27, 28, 29, 30, 31, 32, 33, 34, 35, 36, 37, 38] (by decide +kernel) (by decide +kernel)
set_option maxRecDepth 20000 in
theorem gX8_groups_X8_joins : GoodIn wsX8_groups (wsV RX8 70 RX8 yX8_joins wsX8_joins) := goodIn_app (goodIn_of _ (by decide +kernel)) ggX8_groups_X8_joins
theorem dX8_groups_0 : decode cX8_groups 0 = .ok (.aload_n 0, 1) := by decide +kernel
theorem dX8_groups_1 : decode cX8_groups 1 = .ok (.invokevirtual 67, 3) := by decide +kernel
theorem dX8_groups_4 : decode cX8_groups 4 = .ok (.aload_n 0, 1) := by decide +kernel
theorem dX8_groups_5 : decode cX8_groups 5 = .ok (.getfield 7, 3) := by decide +kernel
theorem dX8_groups_8 : decode cX8_groups 8 = .ok (.istore_n 1, 1) := by decide +kernel
theorem dX8_groups_9 : decode cX8_groups 9 = .ok (.iconst 0, 1) := by decide +kernel
theorem dX8_groups_10 : decode cX8_groups 10 = .ok (.istore_n 2, 1) := by decide +kernel
theorem dX8_groups_11 : decode cX8_groups 11 = .ok (.iload_n 2, 1) := by decide +kernel
theorem dX8_groups_12 : decode cX8_groups 12 = .ok (.aload_n 0, 1) := by decide +kernel
theorem dX8_groups_13 : decode cX8_groups 13 = .ok (.getfield 61, 3) := by decide +kernel
theorem dX8_groups_16 : decode cX8_groups 16 = .ok (.if_icmp .ge 25, 3) := by decide +kernel
theorem dX8_groups_19 : decode cX8_groups 19 = .ok (.iload_n 1, 1) := by decide +kernel
theorem dX8_groups_20 : decode cX8_groups 20 = .ok (.aload_n 0, 1) := by decide +kernel
theorem dX8_groups_21 : decode cX8_groups 21 = .ok (.iload_n 2, 1) := by decide +kernel
theorem dX8_groups_22 : decode cX8_groups 22 = .ok (.invokevirtual 70, 3) := by decide +kernel
theorem dX8_groups_25 : decode cX8_groups 25 = .ok (.ifCond .eq 7, 3) := by decide +kernel
theorem dX8_groups_28 : decode cX8_groups 28 = .ok (.iconst 1, 1) := by decide +kernel
theorem dX8_groups_29 : decode cX8_groups 29 = .ok (.goto 4, 3) := by decide +kernel
theorem dX8_groups_32 : decode cX8_groups 32 = .ok (.iconst 0, 1) := by decide +kernel
theorem dX8_groups_33 : decode cX8_groups 33 = .ok (.isub, 1) := by decide +kernel
theorem dX8_groups_34 : decode cX8_groups 34 = .ok (.istore_n 1, 1) := by decide +kernel
theorem dX8_groups_35 : decode cX8_groups 35 = .ok (.iinc 2 1, 3) := by decide +kernel
theorem dX8_groups_38 : decode cX8_groups 38 = .ok (.goto (-27), 3) := by decide +kernel
theorem dX8_groups_41 : decode cX8_groups 41 = .ok (.iload_n 1, 1) := by decide +kernel
theorem dX8_groups_42 : decode cX8_groups 42 = .ok (.ireturn, 1) := by decide +kernel
set_option maxRecDepth 20000 in
theorem ggX8_dimension_X8_groups : GoodIn wsX8_dimension wsX8_groups := goodIn_r _ [7, 2, 1, 8, 9, 10, 6, 11, 12, 13, 14, 15, 16, 17, 18, 19, 20, 21, 22, 23, 24, 25, 26, 27, 28, 29, 30, 31, 32, 33, 34, 35, 36, 37, 38, 39, 40, 41, 42] (by decide +kernel) (by decide +kernel)
set_option maxRecDepth 20000 in
theorem gX8_dimension_X8_groups : GoodIn wsX8_dimension (wsV RX8 74 RX8 yX8_groups wsX8_groups) := goodIn_app (goodIn_of _ (by decide +kernel)) ggX8_dimension_X8_groups
theorem dX8_dimension_0 : decode cX8_dimension 0 = .ok (.aload_n 0, 1) := by decide +kernel
theorem dX8_dimension_1 : decode cX8_dimension 1 = .ok (.getfield 61, 3) := by decide +kernel
theorem dX8_dimension_4 : decode cX8_dimension 4 = .ok (.aload_n 0, 1) := by decide +kernel
theorem dX8_dimension_5 : decode cX8_dimension 5 = .ok (.getfield 7, 3) := by decide +kernel
theorem dX8_dimension_8 : decode cX8_dimension 8 = .ok (.isub, 1) := by decide +kernel
theorem dX8_dimension_9 : decode cX8_dimension 9 = .ok (.aload_n 0, 1) := by decide +kernel
theorem dX8_dimension_10 : decode cX8_dimension 10 = .ok (.invokevirtual 74, 3) := by decide +kernel
theorem dX8_dimension_13 : decode cX8_dimension 13 = .ok (.iadd, 1) := by decide +kernel
theorem dX8_dimension_14 : decode cX8_dimension 14 = .ok (.ireturn, 1) := by decide +kernel
set_option maxRecDepth 20000 in
theorem ggX8_reset_X8_throwing : GoodIn wsX8_reset wsX8_throwing := goodIn_r _ [7, 8, 9, 10, 11, 12, 13, 14, 15, 16, 17, 18, 19, 20, 21, 22, 23, 24, 25, 26, 27, 28] (by decide +kernel) (by decide +kernel)
set_option maxRecDepth 20000 in
theorem gX8_reset_X8_throwing : GoodIn wsX8_reset (wsV RX8 78 RX8 yX8_throwing wsX8_throwing) := goodIn_app (goodIn_of _ (by decide +kernel)) ggX8_reset_X8_throwing
theorem dX8_reset_0 : decode cX8_reset 0 = .ok (.aload_n 0, 1) := by decide +kernel
theorem dX8_reset_1 : decode cX8_reset 1 = .ok (.iload_n 1, 1) := by decide +kernel
theorem dX8_reset_2 : decode cX8_reset 2 = .ok (.iconst 1, 1) := by decide +kernel
theorem dX8_reset_3 : decode cX8_reset 3 = .ok (.if_icmp .lt 9, 3) := by decide +kernel
theorem dX8_reset_6 : decode cX8_reset 6 = .ok (.iload_n 1, 1) := by decide +kernel
theorem dX8_reset_7 : decode cX8_reset 7 = .ok (.bipush 16, 2) := by decide +kernel
theorem dX8_reset_9 : decode cX8_reset 9 = .ok (.if_icmp .le 7, 3) := by decide +kernel
theorem dX8_reset_12 : decode cX8_reset 12 = .ok (.iconst 1, 1) := by decide +kernel
theorem dX8_reset_13 : decode cX8_reset 13 = .ok (.goto 4, 3) := by decide +kernel
theorem dX8_reset_16 : decode cX8_reset 16 = .ok (.iconst 0, 1) := by decide +kernel
theorem dX8_reset_17 : decode cX8_reset 17 = .ok (.iconst 0, 1) := by decide +kernel
theorem dX8_reset_18 : decode cX8_reset 18 = .ok (.invokevirtual 78, 3) := by decide +kernel
theorem dX8_reset_21 : decode cX8_reset 21 = .ok (.ifCond .eq 5, 3) := by decide +kernel
theorem dX8_reset_24 : decode cX8_reset 24 = .ok (.iconst 0, 1) := by decide +kernel
theorem dX8_reset_25 : decode cX8_reset 25 = .ok (.ireturn, 1) := by decide +kernel
theorem dX8_reset_26 : decode cX8_reset 26 = .ok (.aload_n 0, 1) := by decide +kernel
theorem dX8_reset_27 : decode cX8_reset 27 = .ok (.getfield 61, 3) := by decide +kernel
theorem dX8_reset_30 : decode cX8_reset 30 = .ok (.istore_n 2, 1) := by decide +kernel
theorem dX8_reset_31 : decode cX8_reset 31 = .ok (.aload_n 0, 1) := by decide +kernel
theorem dX8_reset_32 : decode cX8_reset 32 = .ok (.iload_n 1, 1) := by decide +kernel
theorem dX8_reset_33 : decode cX8_reset 33 = .ok (.putfield 7, 3) := by decide +kernel
theorem dX8_reset_36 : decode cX8_reset 36 = .ok (.aload_n 0, 1) := by decide +kernel
theorem dX8_reset_37 : decode cX8_reset 37 = .ok (.iconst 0, 1) := by decide +kernel
theorem dX8_reset_38 : decode cX8_reset 38 = .ok (.putfield 61, 3) := by decide +kernel
theorem dX8_reset_41 : decode cX8_reset 41 = .ok (.iload_n 2, 1) := by decide +kernel
theorem dX8_reset_42 : decode cX8_reset 42 = .ok (.ireturn, 1) := by decide +kernel
set_option maxRecDepth 20000 in
theorem ggX8_edge_X8_isVertex : GoodIn wsX8_edge wsX8_isVertex := goodIn_r _ [11, 12, 38, 39, 40, 41, 42, 43, 44, 45, 46, 47, 48, 49, 50, 51, 52, 53, 54, 55, 56, 57] (by decide +kernel) (by decide +kernel)
set_option maxRecDepth 20000 in
theorem gX8_edge_X8_isVertex : GoodIn wsX8_edge (wsV RX8 82 RX8 yX8_isVertex wsX8_isVertex) := goodIn_app (goodIn_of _ (by decide +kernel)) ggX8_edge_X8_isVertex
set_option maxRecDepth 20000 in
theorem ggX8_edge_X8_dimension : GoodIn wsX8_edge wsX8_dimension := goodIn_r _ [16, 2, 12, 17, 18, 19, 10, 20, 21, 22, 23, 24, 25, 3, 26, 27, 28, 29, 30, 4, 5, 31, 32, 38, 39, 40, 41, 42, 43, 44, 45, 46, 47, 48, 49, 50, 51, 52, 53, 54, 55, 56, 57] (by decide +kernel) (by decide +kernel)
set_option maxRecDepth 20000 in
theorem gX8_edge_X8_dimension : GoodIn wsX8_edge (wsV RX8 86 RX8 yX8_dimension wsX8_dimension) := goodIn_app (goodIn_of _ (by decide +kernel)) ggX8_edge_X8_dimension
set_option maxRecDepth 20000 in
theorem ggX8_edge_X8_throwing : GoodIn wsX8_edge wsX8_throwing := goodIn_r _ [36, 37, 38, 39, 40, 41, 42, 43, 44, 45, 46, 47, 48, 49, 50, 51, 52, 53, 54, 55, 56, 57] (by decide +kernel) (by decide +kernel)
set_option maxRecDepth 20000 in
theorem gX8_edge_X8_throwing : GoodIn wsX8_edge (wsV RX8 78 RX8 yX8_throwing wsX8_throwing) := goodIn_app (goodIn_of _ (by decide +kernel)) ggX8_edge_X8_throwing
theorem dX8_edge_0 : decode cX8_edge 0 = .ok (.aload_n 0, 1) := by decide +kernel
theorem dX8_edge_1 : decode cX8_edge 1 = .ok (.iload_n 1, 1) := by decide +kernel
theorem dX8_edge_2 : decode cX8_edge 2 = .ok (.invokevirtual 82, 3) := by decide +kernel
theorem dX8_edge_5 : decode cX8_edge 5 = .ok (.ifCond .eq 21, 3) := by decide +kernel
theorem dX8_edge_8 : decode cX8_edge 8 = .ok (.aload_n 0, 1) := by decide +kernel
theorem dX8_edge_9 : decode cX8_edge 9 = .ok (.iload_n 2, 1) := by decide +kernel
theorem dX8_edge_10 : decode cX8_edge 10 = .ok (.invokevirtual 82, 3) := by decide +kernel
theorem dX8_edge_13 : decode cX8_edge 13 = .ok (.ifCond .eq 13, 3) := by decide +kernel
theorem dX8_edge_16 : decode cX8_edge 16 = .ok (.iload_n 3, 1) := by decide +kernel
theorem dX8_edge_17 : decode cX8_edge 17 = .ok (.ifCond .lt 9, 3) := by decide +kernel
theorem dX8_edge_20 : decode cX8_edge 20 = .ok (.iload_n 3, 1) := by decide +kernel
theorem dX8_edge_21 : decode cX8_edge 21 = .ok (.ldc 85, 2) := by decide +kernel
theorem dX8_edge_23 : decode cX8_edge 23 = .ok (.if_icmp .le 7, 3) := by decide +kernel
theorem dX8_edge_26 : decode cX8_edge 26 = .ok (.iconst 1, 1) := by decide +kernel
theorem dX8_edge_27 : decode cX8_edge 27 = .ok (.goto 4, 3) := by decide +kernel
theorem dX8_edge_30 : decode cX8_edge 30 = .ok (.iconst 0, 1) := by decide +kernel
theorem dX8_edge_31 : decode cX8_edge 31 = .ok (.istore 4, 2) := by decide +kernel
theorem dX8_edge_33 : decode cX8_edge 33 = .ok (.iconst 0, 1) := by decide +kernel
theorem dX8_edge_34 : decode cX8_edge 34 = .ok (.istore 5, 2) := by decide +kernel
theorem dX8_edge_36 : decode cX8_edge 36 = .ok (.iload 4, 2) := by decide +kernel
theorem dX8_edge_38 : decode cX8_edge 38 = .ok (.ifCond .ne 47, 3) := by decide +kernel
theorem dX8_edge_41 : decode cX8_edge 41 = .ok (.aload_n 0, 1) := by decide +kernel
theorem dX8_edge_42 : decode cX8_edge 42 = .ok (.invokevirtual 86, 3) := by decide +kernel
theorem dX8_edge_45 : decode cX8_edge 45 = .ok (.istore 6, 2) := by decide +kernel
theorem dX8_edge_47 : decode cX8_edge 47 = .ok (.aload_n 0, 1) := by decide +kernel
theorem dX8_edge_48 : decode cX8_edge 48 = .ok (.getfield 61, 3) := by decide +kernel
theorem dX8_edge_51 : decode cX8_edge 51 = .ok (.bipush 40, 2) := by decide +kernel
theorem dX8_edge_53 : decode cX8_edge 53 = .ok (.if_icmp .eq 25, 3) := by decide +kernel
theorem dX8_edge_56 : decode cX8_edge 56 = .ok (.iload 6, 2) := by decide +kernel
theorem dX8_edge_58 : decode cX8_edge 58 = .ok (.bipush 14, 2) := by decide +kernel
theorem dX8_edge_60 : decode cX8_edge 60 = .ok (.if_icmp .ne 22, 3) := by decide +kernel
theorem dX8_edge_63 : decode cX8_edge 63 = .ok (.aload_n 0, 1) := by decide +kernel
theorem dX8_edge_64 : decode cX8_edge 64 = .ok (.getfield 27, 3) := by decide +kernel
theorem dX8_edge_67 : decode cX8_edge 67 = .ok (.iload_n 1, 1) := by decide +kernel
theorem dX8_edge_68 : decode cX8_edge 68 = .ok (.iaload, 1) := by decide +kernel
theorem dX8_edge_69 : decode cX8_edge 69 = .ok (.aload_n 0, 1) := by decide +kernel
theorem dX8_edge_70 : decode cX8_edge 70 = .ok (.getfield 27, 3) := by decide +kernel
theorem dX8_edge_73 : decode cX8_edge 73 = .ok (.iload_n 2, 1) := by decide +kernel
theorem dX8_edge_74 : decode cX8_edge 74 = .ok (.iaload, 1) := by decide +kernel
theorem dX8_edge_75 : decode cX8_edge 75 = .ok (.if_icmp .ne 7, 3) := by decide +kernel
theorem dX8_edge_78 : decode cX8_edge 78 = .ok (.iconst 1, 1) := by decide +kernel
theorem dX8_edge_79 : decode cX8_edge 79 = .ok (.goto 4, 3) := by decide +kernel
theorem dX8_edge_82 : decode cX8_edge 82 = .ok (.iconst 0, 1) := by decide +kernel
theorem dX8_edge_83 : decode cX8_edge 83 = .ok (.istore 5, 2) := by decide +kernel
theorem dX8_edge_85 : decode cX8_edge 85 = .ok (.aload_n 0, 1) := by decide +kernel
theorem dX8_edge_86 : decode cX8_edge 86 = .ok (.iload 4, 2) := by decide +kernel
theorem dX8_edge_88 : decode cX8_edge 88 = .ok (.iload 5, 2) := by decide +kernel
theorem dX8_edge_90 : decode cX8_edge 90 = .ok (.invokevirtual 78, 3) := by decide +kernel
theorem dX8_edge_93 : decode cX8_edge 93 = .ok (.ifCond .eq 5, 3) := by decide +kernel
theorem dX8_edge_96 : decode cX8_edge 96 = .ok (.iconst 0, 1) := by decide +kernel
theorem dX8_edge_97 : decode cX8_edge 97 = .ok (.ireturn, 1) := by decide +kernel
theorem dX8_edge_98 : decode cX8_edge 98 = .ok (.aload_n 0, 1) := by decide +kernel
theorem dX8_edge_99 : decode cX8_edge 99 = .ok (.getfield 13, 3) := by decide +kernel
theorem dX8_edge_102 : decode cX8_edge 102 = .ok (.aload_n 0, 1) := by decide +kernel
theorem dX8_edge_103 : decode cX8_edge 103 = .ok (.getfield 61, 3) := by decide +kernel
theorem dX8_edge_106 : decode cX8_edge 106 = .ok (.iload_n 1, 1) := by decide +kernel
theorem dX8_edge_107 : decode cX8_edge 107 = .ok (.iastore, 1) := by decide +kernel
theorem dX8_edge_108 : decode cX8_edge 108 = .ok (.aload_n 0, 1) := by decide +kernel
theorem dX8_edge_109 : decode cX8_edge 109 = .ok (.getfield 17, 3) := by decide +kernel
theorem dX8_edge_112 : decode cX8_edge 112 = .ok (.aload_n 0, 1) := by decide +kernel
theorem dX8_edge_113 : decode cX8_edge 113 = .ok (.getfield 61, 3) := by decide +kernel
theorem dX8_edge_116 : decode cX8_edge 116 = .ok (.iload_n 2, 1) := by decide +kernel
theorem dX8_edge_117 : decode cX8_edge 117 = .ok (.iastore, 1) := by decide +kernel
theorem dX8_edge_118 : decode cX8_edge 118 = .ok (.aload_n 0, 1) := by decide +kernel
theorem dX8_edge_119 : decode cX8_edge 119 = .ok (.getfield 20, 3) := by decide +kernel
theorem dX8_edge_122 : decode cX8_edge 122 = .ok (.aload_n 0, 1) := by decide +kernel
theorem dX8_edge_123 : decode cX8_edge 123 = .ok (.getfield 61, 3) := by decide +kernel
theorem dX8_edge_126 : decode cX8_edge 126 = .ok (.iload_n 3, 1) := by decide +kernel
theorem dX8_edge_127 : decode cX8_edge 127 = .ok (.iastore, 1) := by decide +kernel
theorem dX8_edge_128 : decode cX8_edge 128 = .ok (.aload_n 0, 1) := by decide +kernel
theorem dX8_edge_129 : decode cX8_edge 129 = .ok (.dup, 1) := by decide +kernel
theorem dX8_edge_130 : decode cX8_edge 130 = .ok (.getfield 61, 3) := by decide +kernel
theorem dX8_edge_133 : decode cX8_edge 133 = .ok (.iconst 1, 1) := by decide +kernel
theorem dX8_edge_134 : decode cX8_edge 134 = .ok (.iadd, 1) := by decide +kernel
theorem dX8_edge_135 : decode cX8_edge 135 = .ok (.putfield 61, 3) := by decide +kernel
theorem dX8_edge_138 : decode cX8_edge 138 = .ok (.aload_n 0, 1) := by decide +kernel
theorem dX8_edge_139 : decode cX8_edge 139 = .ok (.getfield 61, 3) := by decide +kernel
theorem dX8_edge_142 : decode cX8_edge 142 = .ok (.iconst 1, 1) := by decide +kernel
theorem dX8_edge_143 : decode cX8_edge 143 = .ok (.isub, 1) := by decide +kernel
theorem dX8_edge_144 : decode cX8_edge 144 = .ok (.ireturn, 1) := by decide +kernel
set_option maxRecDepth 20000 in
theorem ggX8_drop_X8_throwing : GoodIn wsX8_drop wsX8_throwing := goodIn_r _ [6, 7, 8, 9, 10, 11, 12, 13, 14, 15, 16, 17, 18, 19, 20, 21, 22, 23, 24, 25, 26, 27] (by decide +kernel) (by decide +kernel)
set_option maxRecDepth 20000 in
theorem gX8_drop_X8_throwing : GoodIn wsX8_drop (wsV RX8 78 RX8 yX8_throwing wsX8_throwing) := goodIn_app (goodIn_of _ (by decide +kernel)) ggX8_drop_X8_throwing
theorem dX8_drop_0 : decode cX8_drop 0 = .ok (.aload_n 0, 1) := by decide +kernel
theorem dX8_drop_1 : decode cX8_drop 1 = .ok (.aload_n 0, 1) := by decide +kernel
theorem dX8_drop_2 : decode cX8_drop 2 = .ok (.getfield 61, 3) := by decide +kernel
theorem dX8_drop_5 : decode cX8_drop 5 = .ok (.ifCond .ne 7, 3) := by decide +kernel
theorem dX8_drop_8 : decode cX8_drop 8 = .ok (.iconst 1, 1) := by decide +kernel
theorem dX8_drop_9 : decode cX8_drop 9 = .ok (.goto 4, 3) := by decide +kernel
theorem dX8_drop_12 : decode cX8_drop 12 = .ok (.iconst 0, 1) := by decide +kernel
theorem dX8_drop_13 : decode cX8_drop 13 = .ok (.iconst 0, 1) := by decide +kernel
theorem dX8_drop_14 : decode cX8_drop 14 = .ok (.invokevirtual 78, 3) := by decide +kernel
theorem dX8_drop_17 : decode cX8_drop 17 = .ok (.ifCond .eq 5, 3) := by decide +kernel
theorem dX8_drop_20 : decode cX8_drop 20 = .ok (.iconst 0, 1) := by decide +kernel
theorem dX8_drop_21 : decode cX8_drop 21 = .ok (.ireturn, 1) := by decide +kernel
theorem dX8_drop_22 : decode cX8_drop 22 = .ok (.aload_n 0, 1) := by decide +kernel
theorem dX8_drop_23 : decode cX8_drop 23 = .ok (.dup, 1) := by decide +kernel
theorem dX8_drop_24 : decode cX8_drop 24 = .ok (.getfield 61, 3) := by decide +kernel
theorem dX8_drop_27 : decode cX8_drop 27 = .ok (.iconst 1, 1) := by decide +kernel
theorem dX8_drop_28 : decode cX8_drop 28 = .ok (.isub, 1) := by decide +kernel
theorem dX8_drop_29 : decode cX8_drop 29 = .ok (.putfield 61, 3) := by decide +kernel
theorem dX8_drop_32 : decode cX8_drop 32 = .ok (.aload_n 0, 1) := by decide +kernel
theorem dX8_drop_33 : decode cX8_drop 33 = .ok (.getfield 61, 3) := by decide +kernel
theorem dX8_drop_36 : decode cX8_drop 36 = .ok (.ireturn, 1) := by decide +kernel
theorem dX8_weightOf_0 : decode cX8_weightOf 0 = .ok (.lconst 0, 1) := by decide +kernel
theorem dX8_weightOf_1 : decode cX8_weightOf 1 = .ok (.lstore_n 3, 1) := by decide +kernel
theorem dX8_weightOf_2 : decode cX8_weightOf 2 = .ok (.iconst 0, 1) := by decide +kernel
theorem dX8_weightOf_3 : decode cX8_weightOf 3 = .ok (.istore 5, 2) := by decide +kernel
theorem dX8_weightOf_5 : decode cX8_weightOf 5 = .ok (.iload 5, 2) := by decide +kernel
theorem dX8_weightOf_7 : decode cX8_weightOf 7 = .ok (.aload_n 0, 1) := by decide +kernel
theorem dX8_weightOf_8 : decode cX8_weightOf 8 = .ok (.getfield 61, 3) := by decide +kernel
theorem dX8_weightOf_11 : decode cX8_weightOf 11 = .ok (.if_icmp .ge 31, 3) := by decide +kernel
theorem dX8_weightOf_14 : decode cX8_weightOf 14 = .ok (.lload_n 1, 1) := by decide +kernel
theorem dX8_weightOf_15 : decode cX8_weightOf 15 = .ok (.iload 5, 2) := by decide +kernel
theorem dX8_weightOf_17 : decode cX8_weightOf 17 = .ok (.lshr, 1) := by decide +kernel
theorem dX8_weightOf_18 : decode cX8_weightOf 18 = .ok (.lconst 1, 1) := by decide +kernel
theorem dX8_weightOf_19 : decode cX8_weightOf 19 = .ok (.land, 1) := by decide +kernel
theorem dX8_weightOf_20 : decode cX8_weightOf 20 = .ok (.lconst 1, 1) := by decide +kernel
theorem dX8_weightOf_21 : decode cX8_weightOf 21 = .ok (.lcmp, 1) := by decide +kernel
theorem dX8_weightOf_22 : decode cX8_weightOf 22 = .ok (.ifCond .ne 14, 3) := by decide +kernel
theorem dX8_weightOf_25 : decode cX8_weightOf 25 = .ok (.lload_n 3, 1) := by decide +kernel
theorem dX8_weightOf_26 : decode cX8_weightOf 26 = .ok (.aload_n 0, 1) := by decide +kernel
theorem dX8_weightOf_27 : decode cX8_weightOf 27 = .ok (.getfield 20, 3) := by decide +kernel
theorem dX8_weightOf_30 : decode cX8_weightOf 30 = .ok (.iload 5, 2) := by decide +kernel
theorem dX8_weightOf_32 : decode cX8_weightOf 32 = .ok (.iaload, 1) := by decide +kernel
theorem dX8_weightOf_33 : decode cX8_weightOf 33 = .ok (.i2l, 1) := by decide +kernel
theorem dX8_weightOf_34 : decode cX8_weightOf 34 = .ok (.ladd, 1) := by decide +kernel
theorem dX8_weightOf_35 : decode cX8_weightOf 35 = .ok (.lstore_n 3, 1) := by decide +kernel
theorem dX8_weightOf_36 : decode cX8_weightOf 36 = .ok (.iinc 5 1, 3) := by decide +kernel
theorem dX8_weightOf_39 : decode cX8_weightOf 39 = .ok (.goto (-34), 3) := by decide +kernel
theorem dX8_weightOf_42 : decode cX8_weightOf 42 = .ok (.lload_n 3, 1) := by decide +kernel
theorem dX8_weightOf_43 : decode cX8_weightOf 43 = .ok (.lreturn, 1) := by decide +kernel
set_option maxRecDepth 20000 in
theorem ggX8_beginsWith_X8_beginGroups : GoodIn wsX8_beginsWith wsX8_beginGroups := goodIn_r _ [6, 7, 8, 9, 19, 20, 21, 22, 23, 24, 25, 26, 27, 28, 29, 30, 31, 32, 33, 34, 35, 36, 37, 38] (by decide +kernel) (by decide +kernel)
set_option maxRecDepth 20000 in
theorem gX8_beginsWith_X8_beginGroups : GoodIn wsX8_beginsWith (wsV RX8 67 RX8 yX8_beginGroups wsX8_beginGroups) := goodIn_app (goodIn_of _ (by decide +kernel)) ggX8_beginsWith_X8_beginGroups
set_option maxRecDepth 20000 in
theorem ggX8_beginsWith_X8_joins : GoodIn wsX8_beginsWith wsX8_joins := goodIn_r _ [13, 14, 15, 8, 16, 7, 9, 17, 18, 19, 20, 21, 22, 23, 24, 25, 26, 27, 28, 29, 30, 31, 32, 33, 34, 35, 36, 37, 38] (by decide +kernel) (by decide +kernel)
set_option maxRecDepth 20000 in
theorem gX8_beginsWith_X8_joins : GoodIn wsX8_beginsWith (wsV RX8 70 RX8 yX8_joins wsX8_joins) := goodIn_app (goodIn_of _ (by decide +kernel)) ggX8_beginsWith_X8_joins
theorem dX8_beginsWith_0 : decode cX8_beginsWith 0 = .ok (.aload_n 0, 1) := by decide +kernel
theorem dX8_beginsWith_1 : decode cX8_beginsWith 1 = .ok (.invokevirtual 67, 3) := by decide +kernel
theorem dX8_beginsWith_4 : decode cX8_beginsWith 4 = .ok (.iconst 1, 1) := by decide +kernel
theorem dX8_beginsWith_5 : decode cX8_beginsWith 5 = .ok (.istore_n 3, 1) := by decide +kernel
theorem dX8_beginsWith_6 : decode cX8_beginsWith 6 = .ok (.iconst 0, 1) := by decide +kernel
theorem dX8_beginsWith_7 : decode cX8_beginsWith 7 = .ok (.istore 4, 2) := by decide +kernel
theorem dX8_beginsWith_9 : decode cX8_beginsWith 9 = .ok (.iload 4, 2) := by decide +kernel
theorem dX8_beginsWith_11 : decode cX8_beginsWith 11 = .ok (.aload_n 0, 1) := by decide +kernel
theorem dX8_beginsWith_12 : decode cX8_beginsWith 12 = .ok (.getfield 61, 3) := by decide +kernel
theorem dX8_beginsWith_15 : decode cX8_beginsWith 15 = .ok (.if_icmp .ge 39, 3) := by decide +kernel
theorem dX8_beginsWith_18 : decode cX8_beginsWith 18 = .ok (.lload_n 1, 1) := by decide +kernel
theorem dX8_beginsWith_19 : decode cX8_beginsWith 19 = .ok (.iload 4, 2) := by decide +kernel
theorem dX8_beginsWith_21 : decode cX8_beginsWith 21 = .ok (.lshr, 1) := by decide +kernel
theorem dX8_beginsWith_22 : decode cX8_beginsWith 22 = .ok (.lconst 1, 1) := by decide +kernel
theorem dX8_beginsWith_23 : decode cX8_beginsWith 23 = .ok (.land, 1) := by decide +kernel
theorem dX8_beginsWith_24 : decode cX8_beginsWith 24 = .ok (.lconst 1, 1) := by decide +kernel
theorem dX8_beginsWith_25 : decode cX8_beginsWith 25 = .ok (.lcmp, 1) := by decide +kernel
theorem dX8_beginsWith_26 : decode cX8_beginsWith 26 = .ok (.ifCond .ne 22, 3) := by decide +kernel
theorem dX8_beginsWith_29 : decode cX8_beginsWith 29 = .ok (.aload_n 0, 1) := by decide +kernel
theorem dX8_beginsWith_30 : decode cX8_beginsWith 30 = .ok (.iload 4, 2) := by decide +kernel
theorem dX8_beginsWith_32 : decode cX8_beginsWith 32 = .ok (.invokevirtual 70, 3) := by decide +kernel
theorem dX8_beginsWith_35 : decode cX8_beginsWith 35 = .ok (.ifCond .eq 11, 3) := by decide +kernel
theorem dX8_beginsWith_38 : decode cX8_beginsWith 38 = .ok (.iload_n 3, 1) := by decide +kernel
theorem dX8_beginsWith_39 : decode cX8_beginsWith 39 = .ok (.ifCond .eq 7, 3) := by decide +kernel
theorem dX8_beginsWith_42 : decode cX8_beginsWith 42 = .ok (.iconst 1, 1) := by decide +kernel
theorem dX8_beginsWith_43 : decode cX8_beginsWith 43 = .ok (.goto 4, 3) := by decide +kernel
theorem dX8_beginsWith_46 : decode cX8_beginsWith 46 = .ok (.iconst 0, 1) := by decide +kernel
theorem dX8_beginsWith_47 : decode cX8_beginsWith 47 = .ok (.istore_n 3, 1) := by decide +kernel
theorem dX8_beginsWith_48 : decode cX8_beginsWith 48 = .ok (.iinc 4 1, 3) := by decide +kernel
theorem dX8_beginsWith_51 : decode cX8_beginsWith 51 = .ok (.goto (-42), 3) := by decide +kernel
theorem dX8_beginsWith_54 : decode cX8_beginsWith 54 = .ok (.iload_n 3, 1) := by decide +kernel
theorem dX8_beginsWith_55 : decode cX8_beginsWith 55 = .ok (.ireturn, 1) := by decide +kernel
set_option maxRecDepth 20000 in
theorem ggX8_forests_X8_isSet : GoodIn wsX8_forests wsX8_isSet := goodIn_r _ [12, 5, 51, 52, 53, 54, 55, 56, 57, 58, 59, 60, 61, 62, 63, 64, 65, 66, 67, 68, 69, 70] (by decide +kernel) (by decide +kernel)
set_option maxRecDepth 20000 in
theorem gX8_forests_X8_isSet : GoodIn wsX8_forests (wsV RX8 89 RX8 yX8_isSet wsX8_isSet) := goodIn_app (goodIn_of _ (by decide +kernel)) ggX8_forests_X8_isSet
set_option maxRecDepth 20000 in
theorem ggX8_forests_X8_throwing : GoodIn wsX8_forests wsX8_throwing := goodIn_r _ [16, 17, 51, 52, 53, 54, 55, 56, 57, 58, 59, 60, 61, 62, 63, 64, 65, 66, 67, 68, 69, 70] (by decide +kernel) (by decide +kernel)
set_option maxRecDepth 20000 in
theorem gX8_forests_X8_throwing : GoodIn wsX8_forests (wsV RX8 78 RX8 yX8_throwing wsX8_throwing) := goodIn_app (goodIn_of _ (by decide +kernel)) ggX8_forests_X8_throwing
set_option maxRecDepth 20000 in
theorem ggX8_forests_X8_beginsWith : GoodIn wsX8_forests wsX8_beginsWith := goodIn_r _ [21, 5, 22, 23, 24, 11, 25, 26, 3, 27, 28, 29, 30, 31, 6, 7, 32, 33, 1, 51, 52, 53, 54, 55, 56, 57, 58, 59, 60, 61, 62, 63, 64, 65, 66, 67, 68, 69, 70] (by decide +kernel) (by decide +kernel)
set_option maxRecDepth 20000 in
theorem gX8_forests_X8_beginsWith : GoodIn wsX8_forests (wsV RX8 93 RX8 yX8_beginsWith wsX8_beginsWith) := goodIn_app (goodIn_of _ (by decide +kernel)) ggX8_forests_X8_beginsWith
set_option maxRecDepth 20000 in
theorem ggX8_forests_X8_isFirst : GoodIn wsX8_forests wsX8_isFirst := goodIn_r _ [37, 3, 38, 39, 40, 11, 41, 1, 42, 5, 6, 7, 51, 52, 53, 54, 55, 56, 57, 58, 59, 60, 61, 62, 63, 64, 65, 66, 67, 68, 69, 70] (by decide +kernel) (by decide +kernel)
set_option maxRecDepth 20000 in
theorem gX8_forests_X8_isFirst : GoodIn wsX8_forests (wsV RX8 96 RX8 yX8_isFirst wsX8_isFirst) := goodIn_app (goodIn_of _ (by decide +kernel)) ggX8_forests_X8_isFirst
set_option maxRecDepth 20000 in
theorem ggX8_forests_X8_lay : GoodIn wsX8_forests wsX8_lay := goodIn_r _ [46, 4, 51, 52, 53, 54, 55, 56, 57, 58, 59, 60, 61, 62, 63, 64, 65, 66, 67, 68, 69, 70] (by decide +kernel) (by decide +kernel)
set_option maxRecDepth 20000 in
theorem gX8_forests_X8_lay : GoodIn wsX8_forests (wsV RX8 99 RX8 yX8_lay wsX8_lay) := goodIn_app (goodIn_of _ (by decide +kernel)) ggX8_forests_X8_lay
set_option maxRecDepth 20000 in
theorem ggX8_forests_X8_determinant : GoodIn wsX8_forests wsX8_determinant := goodIn_r _ [50, 4, 51, 52, 53, 54, 55, 56, 57, 58, 59, 60, 61, 62, 63, 64, 65, 66, 67, 68, 69, 70] (by decide +kernel) (by decide +kernel)
set_option maxRecDepth 20000 in
theorem gX8_forests_X8_determinant : GoodIn wsX8_forests (wsV RX8 103 RX8 yX8_determinant wsX8_determinant) := goodIn_app (goodIn_of _ (by decide +kernel)) ggX8_forests_X8_determinant
theorem dX8_forests_0 : decode cX8_forests 0 = .ok (.aload_n 0, 1) := by decide +kernel
theorem dX8_forests_1 : decode cX8_forests 1 = .ok (.aload_n 0, 1) := by decide +kernel
theorem dX8_forests_2 : decode cX8_forests 2 = .ok (.lload_n 1, 1) := by decide +kernel
theorem dX8_forests_3 : decode cX8_forests 3 = .ok (.invokevirtual 89, 3) := by decide +kernel
theorem dX8_forests_6 : decode cX8_forests 6 = .ok (.ifCond .ne 7, 3) := by decide +kernel
theorem dX8_forests_9 : decode cX8_forests 9 = .ok (.iconst 1, 1) := by decide +kernel
theorem dX8_forests_10 : decode cX8_forests 10 = .ok (.goto 4, 3) := by decide +kernel
theorem dX8_forests_13 : decode cX8_forests 13 = .ok (.iconst 0, 1) := by decide +kernel
theorem dX8_forests_14 : decode cX8_forests 14 = .ok (.iconst 0, 1) := by decide +kernel
theorem dX8_forests_15 : decode cX8_forests 15 = .ok (.invokevirtual 78, 3) := by decide +kernel
theorem dX8_forests_18 : decode cX8_forests 18 = .ok (.ifCond .eq 5, 3) := by decide +kernel
theorem dX8_forests_21 : decode cX8_forests 21 = .ok (.lconst 0, 1) := by decide +kernel
theorem dX8_forests_22 : decode cX8_forests 22 = .ok (.lreturn, 1) := by decide +kernel
theorem dX8_forests_23 : decode cX8_forests 23 = .ok (.aload_n 0, 1) := by decide +kernel
theorem dX8_forests_24 : decode cX8_forests 24 = .ok (.lload_n 1, 1) := by decide +kernel
theorem dX8_forests_25 : decode cX8_forests 25 = .ok (.invokevirtual 93, 3) := by decide +kernel
theorem dX8_forests_28 : decode cX8_forests 28 = .ok (.ifCond .ne 5, 3) := by decide +kernel
theorem dX8_forests_31 : decode cX8_forests 31 = .ok (.lconst 0, 1) := by decide +kernel
theorem dX8_forests_32 : decode cX8_forests 32 = .ok (.lreturn, 1) := by decide +kernel
theorem dX8_forests_33 : decode cX8_forests 33 = .ok (.iconst 0, 1) := by decide +kernel
theorem dX8_forests_34 : decode cX8_forests 34 = .ok (.istore_n 3, 1) := by decide +kernel
theorem dX8_forests_35 : decode cX8_forests 35 = .ok (.iconst 0, 1) := by decide +kernel
theorem dX8_forests_36 : decode cX8_forests 36 = .ok (.istore 4, 2) := by decide +kernel
theorem dX8_forests_38 : decode cX8_forests 38 = .ok (.iload 4, 2) := by decide +kernel
theorem dX8_forests_40 : decode cX8_forests 40 = .ok (.aload_n 0, 1) := by decide +kernel
theorem dX8_forests_41 : decode cX8_forests 41 = .ok (.getfield 7, 3) := by decide +kernel
theorem dX8_forests_44 : decode cX8_forests 44 = .ok (.if_icmp .ge 70, 3) := by decide +kernel
theorem dX8_forests_47 : decode cX8_forests 47 = .ok (.aload_n 0, 1) := by decide +kernel
theorem dX8_forests_48 : decode cX8_forests 48 = .ok (.getfield 51, 3) := by decide +kernel
theorem dX8_forests_51 : decode cX8_forests 51 = .ok (.iload 4, 2) := by decide +kernel
theorem dX8_forests_53 : decode cX8_forests 53 = .ok (.iconst (-1), 1) := by decide +kernel
theorem dX8_forests_54 : decode cX8_forests 54 = .ok (.iastore, 1) := by decide +kernel
theorem dX8_forests_55 : decode cX8_forests 55 = .ok (.aload_n 0, 1) := by decide +kernel
theorem dX8_forests_56 : decode cX8_forests 56 = .ok (.getfield 27, 3) := by decide +kernel
theorem dX8_forests_59 : decode cX8_forests 59 = .ok (.iload 4, 2) := by decide +kernel
theorem dX8_forests_61 : decode cX8_forests 61 = .ok (.iaload, 1) := by decide +kernel
theorem dX8_forests_62 : decode cX8_forests 62 = .ok (.iload 4, 2) := by decide +kernel
theorem dX8_forests_64 : decode cX8_forests 64 = .ok (.if_icmp .eq 6, 3) := by decide +kernel
theorem dX8_forests_67 : decode cX8_forests 67 = .ok (.goto 41, 3) := by decide +kernel
theorem dX8_forests_70 : decode cX8_forests 70 = .ok (.aload_n 0, 1) := by decide +kernel
theorem dX8_forests_71 : decode cX8_forests 71 = .ok (.getfield 51, 3) := by decide +kernel
theorem dX8_forests_74 : decode cX8_forests 74 = .ok (.iload 4, 2) := by decide +kernel
theorem dX8_forests_76 : decode cX8_forests 76 = .ok (.aload_n 0, 1) := by decide +kernel
theorem dX8_forests_77 : decode cX8_forests 77 = .ok (.iload 4, 2) := by decide +kernel
theorem dX8_forests_79 : decode cX8_forests 79 = .ok (.invokevirtual 96, 3) := by decide +kernel
theorem dX8_forests_82 : decode cX8_forests 82 = .ok (.ifCond .eq 7, 3) := by decide +kernel
theorem dX8_forests_85 : decode cX8_forests 85 = .ok (.iconst (-1), 1) := by decide +kernel
theorem dX8_forests_86 : decode cX8_forests 86 = .ok (.goto 4, 3) := by decide +kernel
theorem dX8_forests_89 : decode cX8_forests 89 = .ok (.iload_n 3, 1) := by decide +kernel
theorem dX8_forests_90 : decode cX8_forests 90 = .ok (.iastore, 1) := by decide +kernel
theorem dX8_forests_91 : decode cX8_forests 91 = .ok (.iload_n 3, 1) := by decide +kernel
theorem dX8_forests_92 : decode cX8_forests 92 = .ok (.aload_n 0, 1) := by decide +kernel
theorem dX8_forests_93 : decode cX8_forests 93 = .ok (.iload 4, 2) := by decide +kernel
theorem dX8_forests_95 : decode cX8_forests 95 = .ok (.invokevirtual 96, 3) := by decide +kernel
theorem dX8_forests_98 : decode cX8_forests 98 = .ok (.ifCond .eq 7, 3) := by decide +kernel
theorem dX8_forests_101 : decode cX8_forests 101 = .ok (.iconst 0, 1) := by decide +kernel
theorem dX8_forests_102 : decode cX8_forests 102 = .ok (.goto 4, 3) := by decide +kernel
theorem dX8_forests_105 : decode cX8_forests 105 = .ok (.iconst 1, 1) := by decide +kernel
theorem dX8_forests_106 : decode cX8_forests 106 = .ok (.iadd, 1) := by decide +kernel
theorem dX8_forests_107 : decode cX8_forests 107 = .ok (.istore_n 3, 1) := by decide +kernel
theorem dX8_forests_108 : decode cX8_forests 108 = .ok (.iinc 4 1, 3) := by decide +kernel
theorem dX8_forests_111 : decode cX8_forests 111 = .ok (.goto (-73), 3) := by decide +kernel
theorem dX8_forests_114 : decode cX8_forests 114 = .ok (.iconst 0, 1) := by decide +kernel
theorem dX8_forests_115 : decode cX8_forests 115 = .ok (.istore 4, 2) := by decide +kernel
theorem dX8_forests_117 : decode cX8_forests 117 = .ok (.iload 4, 2) := by decide +kernel
theorem dX8_forests_119 : decode cX8_forests 119 = .ok (.sipush 256, 3) := by decide +kernel
theorem dX8_forests_122 : decode cX8_forests 122 = .ok (.if_icmp .ge 17, 3) := by decide +kernel
theorem dX8_forests_125 : decode cX8_forests 125 = .ok (.aload_n 0, 1) := by decide +kernel
theorem dX8_forests_126 : decode cX8_forests 126 = .ok (.getfield 48, 3) := by decide +kernel
theorem dX8_forests_129 : decode cX8_forests 129 = .ok (.iload 4, 2) := by decide +kernel
theorem dX8_forests_131 : decode cX8_forests 131 = .ok (.lconst 0, 1) := by decide +kernel
theorem dX8_forests_132 : decode cX8_forests 132 = .ok (.lastore, 1) := by decide +kernel
theorem dX8_forests_133 : decode cX8_forests 133 = .ok (.iinc 4 1, 3) := by decide +kernel
theorem dX8_forests_136 : decode cX8_forests 136 = .ok (.goto (-19), 3) := by decide +kernel
theorem dX8_forests_139 : decode cX8_forests 139 = .ok (.iconst 0, 1) := by decide +kernel
theorem dX8_forests_140 : decode cX8_forests 140 = .ok (.istore 4, 2) := by decide +kernel
theorem dX8_forests_142 : decode cX8_forests 142 = .ok (.iload 4, 2) := by decide +kernel
theorem dX8_forests_144 : decode cX8_forests 144 = .ok (.aload_n 0, 1) := by decide +kernel
theorem dX8_forests_145 : decode cX8_forests 145 = .ok (.getfield 61, 3) := by decide +kernel
theorem dX8_forests_148 : decode cX8_forests 148 = .ok (.if_icmp .ge 65, 3) := by decide +kernel
theorem dX8_forests_151 : decode cX8_forests 151 = .ok (.aload_n 0, 1) := by decide +kernel
theorem dX8_forests_152 : decode cX8_forests 152 = .ok (.getfield 27, 3) := by decide +kernel
theorem dX8_forests_155 : decode cX8_forests 155 = .ok (.aload_n 0, 1) := by decide +kernel
theorem dX8_forests_156 : decode cX8_forests 156 = .ok (.getfield 13, 3) := by decide +kernel
theorem dX8_forests_159 : decode cX8_forests 159 = .ok (.iload 4, 2) := by decide +kernel
theorem dX8_forests_161 : decode cX8_forests 161 = .ok (.iaload, 1) := by decide +kernel
theorem dX8_forests_162 : decode cX8_forests 162 = .ok (.iaload, 1) := by decide +kernel
theorem dX8_forests_163 : decode cX8_forests 163 = .ok (.istore 5, 2) := by decide +kernel
theorem dX8_forests_165 : decode cX8_forests 165 = .ok (.aload_n 0, 1) := by decide +kernel
theorem dX8_forests_166 : decode cX8_forests 166 = .ok (.getfield 27, 3) := by decide +kernel
theorem dX8_forests_169 : decode cX8_forests 169 = .ok (.aload_n 0, 1) := by decide +kernel
theorem dX8_forests_170 : decode cX8_forests 170 = .ok (.getfield 17, 3) := by decide +kernel
theorem dX8_forests_173 : decode cX8_forests 173 = .ok (.iload 4, 2) := by decide +kernel
theorem dX8_forests_175 : decode cX8_forests 175 = .ok (.iaload, 1) := by decide +kernel
theorem dX8_forests_176 : decode cX8_forests 176 = .ok (.iaload, 1) := by decide +kernel
theorem dX8_forests_177 : decode cX8_forests 177 = .ok (.istore 6, 2) := by decide +kernel
theorem dX8_forests_179 : decode cX8_forests 179 = .ok (.iload 5, 2) := by decide +kernel
theorem dX8_forests_181 : decode cX8_forests 181 = .ok (.iload 6, 2) := by decide +kernel
theorem dX8_forests_183 : decode cX8_forests 183 = .ok (.if_icmp .ne 6, 3) := by decide +kernel
theorem dX8_forests_186 : decode cX8_forests 186 = .ok (.goto 21, 3) := by decide +kernel
theorem dX8_forests_189 : decode cX8_forests 189 = .ok (.aload_n 0, 1) := by decide +kernel
theorem dX8_forests_190 : decode cX8_forests 190 = .ok (.aload_n 0, 1) := by decide +kernel
theorem dX8_forests_191 : decode cX8_forests 191 = .ok (.getfield 51, 3) := by decide +kernel
theorem dX8_forests_194 : decode cX8_forests 194 = .ok (.iload 5, 2) := by decide +kernel
theorem dX8_forests_196 : decode cX8_forests 196 = .ok (.iaload, 1) := by decide +kernel
theorem dX8_forests_197 : decode cX8_forests 197 = .ok (.aload_n 0, 1) := by decide +kernel
theorem dX8_forests_198 : decode cX8_forests 198 = .ok (.getfield 51, 3) := by decide +kernel
theorem dX8_forests_201 : decode cX8_forests 201 = .ok (.iload 6, 2) := by decide +kernel
theorem dX8_forests_203 : decode cX8_forests 203 = .ok (.iaload, 1) := by decide +kernel
theorem dX8_forests_204 : decode cX8_forests 204 = .ok (.invokevirtual 99, 3) := by decide +kernel
theorem dX8_forests_207 : decode cX8_forests 207 = .ok (.iinc 4 1, 3) := by decide +kernel
theorem dX8_forests_210 : decode cX8_forests 210 = .ok (.goto (-68), 3) := by decide +kernel
theorem dX8_forests_213 : decode cX8_forests 213 = .ok (.aload_n 0, 1) := by decide +kernel
theorem dX8_forests_214 : decode cX8_forests 214 = .ok (.iload_n 3, 1) := by decide +kernel
theorem dX8_forests_215 : decode cX8_forests 215 = .ok (.invokevirtual 103, 3) := by decide +kernel
theorem dX8_forests_218 : decode cX8_forests 218 = .ok (.lreturn, 1) := by decide +kernel
set_option maxRecDepth 20000 in
theorem ggX8_isFirst_X8_hang : GoodIn wsX8_isFirst wsX8_hang := goodIn_r _ [6, 7, 8, 9, 10, 11, 12, 13, 14, 15, 16, 17, 18, 19, 20, 21, 22, 23, 24, 25, 26, 27, 28, 29, 30, 31] (by decide +kernel) (by decide +kernel)
set_option maxRecDepth 20000 in
theorem gX8_isFirst_X8_hang : GoodIn wsX8_isFirst (wsV RX8 107 RX8 yX8_hang wsX8_hang) := goodIn_app (goodIn_of _ (by decide +kernel)) ggX8_isFirst_X8_hang
theorem dX8_isFirst_0 : decode cX8_isFirst 0 = .ok (.iconst 1, 1) := by decide +kernel
theorem dX8_isFirst_1 : decode cX8_isFirst 1 = .ok (.istore_n 2, 1) := by decide +kernel
theorem dX8_isFirst_2 : decode cX8_isFirst 2 = .ok (.iconst 0, 1) := by decide +kernel
theorem dX8_isFirst_3 : decode cX8_isFirst 3 = .ok (.istore_n 3, 1) := by decide +kernel
theorem dX8_isFirst_4 : decode cX8_isFirst 4 = .ok (.iload_n 3, 1) := by decide +kernel
theorem dX8_isFirst_5 : decode cX8_isFirst 5 = .ok (.iload_n 1, 1) := by decide +kernel
theorem dX8_isFirst_6 : decode cX8_isFirst 6 = .ok (.if_icmp .ge 38, 3) := by decide +kernel
theorem dX8_isFirst_9 : decode cX8_isFirst 9 = .ok (.iload_n 2, 1) := by decide +kernel
theorem dX8_isFirst_10 : decode cX8_isFirst 10 = .ok (.ifCond .eq 26, 3) := by decide +kernel
theorem dX8_isFirst_13 : decode cX8_isFirst 13 = .ok (.aload_n 0, 1) := by decide +kernel
theorem dX8_isFirst_14 : decode cX8_isFirst 14 = .ok (.getfield 27, 3) := by decide +kernel
theorem dX8_isFirst_17 : decode cX8_isFirst 17 = .ok (.iload_n 3, 1) := by decide +kernel
theorem dX8_isFirst_18 : decode cX8_isFirst 18 = .ok (.iaload, 1) := by decide +kernel
theorem dX8_isFirst_19 : decode cX8_isFirst 19 = .ok (.iload_n 3, 1) := by decide +kernel
theorem dX8_isFirst_20 : decode cX8_isFirst 20 = .ok (.if_icmp .ne 12, 3) := by decide +kernel
theorem dX8_isFirst_23 : decode cX8_isFirst 23 = .ok (.aload_n 0, 1) := by decide +kernel
theorem dX8_isFirst_24 : decode cX8_isFirst 24 = .ok (.iload_n 3, 1) := by decide +kernel
theorem dX8_isFirst_25 : decode cX8_isFirst 25 = .ok (.iload_n 1, 1) := by decide +kernel
theorem dX8_isFirst_26 : decode cX8_isFirst 26 = .ok (.invokevirtual 107, 3) := by decide +kernel
theorem dX8_isFirst_29 : decode cX8_isFirst 29 = .ok (.ifCond .ne 7, 3) := by decide +kernel
theorem dX8_isFirst_32 : decode cX8_isFirst 32 = .ok (.iconst 1, 1) := by decide +kernel
theorem dX8_isFirst_33 : decode cX8_isFirst 33 = .ok (.goto 4, 3) := by decide +kernel
theorem dX8_isFirst_36 : decode cX8_isFirst 36 = .ok (.iconst 0, 1) := by decide +kernel
theorem dX8_isFirst_37 : decode cX8_isFirst 37 = .ok (.istore_n 2, 1) := by decide +kernel
theorem dX8_isFirst_38 : decode cX8_isFirst 38 = .ok (.iinc 3 1, 3) := by decide +kernel
theorem dX8_isFirst_41 : decode cX8_isFirst 41 = .ok (.goto (-37), 3) := by decide +kernel
theorem dX8_isFirst_44 : decode cX8_isFirst 44 = .ok (.iload_n 2, 1) := by decide +kernel
theorem dX8_isFirst_45 : decode cX8_isFirst 45 = .ok (.ireturn, 1) := by decide +kernel
theorem dX8_hang_0 : decode cX8_hang 0 = .ok (.iconst 0, 1) := by decide +kernel
theorem dX8_hang_1 : decode cX8_hang 1 = .ok (.istore_n 3, 1) := by decide +kernel
theorem dX8_hang_2 : decode cX8_hang 2 = .ok (.iload_n 3, 1) := by decide +kernel
theorem dX8_hang_3 : decode cX8_hang 3 = .ok (.aload_n 0, 1) := by decide +kernel
theorem dX8_hang_4 : decode cX8_hang 4 = .ok (.getfield 7, 3) := by decide +kernel
theorem dX8_hang_7 : decode cX8_hang 7 = .ok (.if_icmp .ge 25, 3) := by decide +kernel
theorem dX8_hang_10 : decode cX8_hang 10 = .ok (.aload_n 0, 1) := by decide +kernel
theorem dX8_hang_11 : decode cX8_hang 11 = .ok (.getfield 54, 3) := by decide +kernel
theorem dX8_hang_14 : decode cX8_hang 14 = .ok (.iload_n 3, 1) := by decide +kernel
theorem dX8_hang_15 : decode cX8_hang 15 = .ok (.iload_n 3, 1) := by decide +kernel
theorem dX8_hang_16 : decode cX8_hang 16 = .ok (.iload_n 1, 1) := by decide +kernel
theorem dX8_hang_17 : decode cX8_hang 17 = .ok (.if_icmp .ne 7, 3) := by decide +kernel
theorem dX8_hang_20 : decode cX8_hang 20 = .ok (.iconst 1, 1) := by decide +kernel
theorem dX8_hang_21 : decode cX8_hang 21 = .ok (.goto 4, 3) := by decide +kernel
theorem dX8_hang_24 : decode cX8_hang 24 = .ok (.iconst 0, 1) := by decide +kernel
theorem dX8_hang_25 : decode cX8_hang 25 = .ok (.bastore, 1) := by decide +kernel
theorem dX8_hang_26 : decode cX8_hang 26 = .ok (.iinc 3 1, 3) := by decide +kernel
theorem dX8_hang_29 : decode cX8_hang 29 = .ok (.goto (-27), 3) := by decide +kernel
theorem dX8_hang_32 : decode cX8_hang 32 = .ok (.iconst 1, 1) := by decide +kernel
theorem dX8_hang_33 : decode cX8_hang 33 = .ok (.istore_n 3, 1) := by decide +kernel
theorem dX8_hang_34 : decode cX8_hang 34 = .ok (.iload_n 3, 1) := by decide +kernel
theorem dX8_hang_35 : decode cX8_hang 35 = .ok (.ifCond .eq 84, 3) := by decide +kernel
theorem dX8_hang_38 : decode cX8_hang 38 = .ok (.iconst 0, 1) := by decide +kernel
theorem dX8_hang_39 : decode cX8_hang 39 = .ok (.istore_n 3, 1) := by decide +kernel
theorem dX8_hang_40 : decode cX8_hang 40 = .ok (.iconst 0, 1) := by decide +kernel
theorem dX8_hang_41 : decode cX8_hang 41 = .ok (.istore 4, 2) := by decide +kernel
theorem dX8_hang_43 : decode cX8_hang 43 = .ok (.iload 4, 2) := by decide +kernel
theorem dX8_hang_45 : decode cX8_hang 45 = .ok (.aload_n 0, 1) := by decide +kernel
theorem dX8_hang_46 : decode cX8_hang 46 = .ok (.getfield 61, 3) := by decide +kernel
theorem dX8_hang_49 : decode cX8_hang 49 = .ok (.if_icmp .ge 67, 3) := by decide +kernel
theorem dX8_hang_52 : decode cX8_hang 52 = .ok (.aload_n 0, 1) := by decide +kernel
theorem dX8_hang_53 : decode cX8_hang 53 = .ok (.getfield 54, 3) := by decide +kernel
theorem dX8_hang_56 : decode cX8_hang 56 = .ok (.aload_n 0, 1) := by decide +kernel
theorem dX8_hang_57 : decode cX8_hang 57 = .ok (.getfield 13, 3) := by decide +kernel
theorem dX8_hang_60 : decode cX8_hang 60 = .ok (.iload 4, 2) := by decide +kernel
theorem dX8_hang_62 : decode cX8_hang 62 = .ok (.iaload, 1) := by decide +kernel
theorem dX8_hang_63 : decode cX8_hang 63 = .ok (.baload, 1) := by decide +kernel
theorem dX8_hang_64 : decode cX8_hang 64 = .ok (.aload_n 0, 1) := by decide +kernel
theorem dX8_hang_65 : decode cX8_hang 65 = .ok (.getfield 54, 3) := by decide +kernel
theorem dX8_hang_68 : decode cX8_hang 68 = .ok (.aload_n 0, 1) := by decide +kernel
theorem dX8_hang_69 : decode cX8_hang 69 = .ok (.getfield 17, 3) := by decide +kernel
theorem dX8_hang_72 : decode cX8_hang 72 = .ok (.iload 4, 2) := by decide +kernel
theorem dX8_hang_74 : decode cX8_hang 74 = .ok (.iaload, 1) := by decide +kernel
theorem dX8_hang_75 : decode cX8_hang 75 = .ok (.baload, 1) := by decide +kernel
theorem dX8_hang_76 : decode cX8_hang 76 = .ok (.if_icmp .ne 6, 3) := by decide +kernel
theorem dX8_hang_79 : decode cX8_hang 79 = .ok (.goto 31, 3) := by decide +kernel
theorem dX8_hang_82 : decode cX8_hang 82 = .ok (.aload_n 0, 1) := by decide +kernel
theorem dX8_hang_83 : decode cX8_hang 83 = .ok (.getfield 54, 3) := by decide +kernel
theorem dX8_hang_86 : decode cX8_hang 86 = .ok (.aload_n 0, 1) := by decide +kernel
theorem dX8_hang_87 : decode cX8_hang 87 = .ok (.getfield 13, 3) := by decide +kernel
theorem dX8_hang_90 : decode cX8_hang 90 = .ok (.iload 4, 2) := by decide +kernel
theorem dX8_hang_92 : decode cX8_hang 92 = .ok (.iaload, 1) := by decide +kernel
theorem dX8_hang_93 : decode cX8_hang 93 = .ok (.iconst 1, 1) := by decide +kernel
theorem dX8_hang_94 : decode cX8_hang 94 = .ok (.bastore, 1) := by decide +kernel
theorem dX8_hang_95 : decode cX8_hang 95 = .ok (.aload_n 0, 1) := by decide +kernel
theorem dX8_hang_96 : decode cX8_hang 96 = .ok (.getfield 54, 3) := by decide +kernel
theorem dX8_hang_99 : decode cX8_hang 99 = .ok (.aload_n 0, 1) := by decide +kernel
theorem dX8_hang_100 : decode cX8_hang 100 = .ok (.getfield 17, 3) := by decide +kernel
theorem dX8_hang_103 : decode cX8_hang 103 = .ok (.iload 4, 2) := by decide +kernel
theorem dX8_hang_105 : decode cX8_hang 105 = .ok (.iaload, 1) := by decide +kernel
theorem dX8_hang_106 : decode cX8_hang 106 = .ok (.iconst 1, 1) := by decide +kernel
theorem dX8_hang_107 : decode cX8_hang 107 = .ok (.bastore, 1) := by decide +kernel
theorem dX8_hang_108 : decode cX8_hang 108 = .ok (.iconst 1, 1) := by decide +kernel
theorem dX8_hang_109 : decode cX8_hang 109 = .ok (.istore_n 3, 1) := by decide +kernel
theorem dX8_hang_110 : decode cX8_hang 110 = .ok (.iinc 4 1, 3) := by decide +kernel
theorem dX8_hang_113 : decode cX8_hang 113 = .ok (.goto (-70), 3) := by decide +kernel
theorem dX8_hang_116 : decode cX8_hang 116 = .ok (.goto (-82), 3) := by decide +kernel
theorem dX8_hang_119 : decode cX8_hang 119 = .ok (.aload_n 0, 1) := by decide +kernel
theorem dX8_hang_120 : decode cX8_hang 120 = .ok (.getfield 54, 3) := by decide +kernel
theorem dX8_hang_123 : decode cX8_hang 123 = .ok (.iload_n 2, 1) := by decide +kernel
theorem dX8_hang_124 : decode cX8_hang 124 = .ok (.baload, 1) := by decide +kernel
theorem dX8_hang_125 : decode cX8_hang 125 = .ok (.ireturn, 1) := by decide +kernel
theorem dX8_lay_0 : decode cX8_lay 0 = .ok (.iload_n 1, 1) := by decide +kernel
theorem dX8_lay_1 : decode cX8_lay 1 = .ok (.ifCond .lt 16, 3) := by decide +kernel
theorem dX8_lay_4 : decode cX8_lay 4 = .ok (.aload_n 0, 1) := by decide +kernel
theorem dX8_lay_5 : decode cX8_lay 5 = .ok (.getfield 48, 3) := by decide +kernel
theorem dX8_lay_8 : decode cX8_lay 8 = .ok (.bipush 17, 2) := by decide +kernel
theorem dX8_lay_10 : decode cX8_lay 10 = .ok (.iload_n 1, 1) := by decide +kernel
theorem dX8_lay_11 : decode cX8_lay 11 = .ok (.imul, 1) := by decide +kernel
theorem dX8_lay_12 : decode cX8_lay 12 = .ok (.dup2, 1) := by decide +kernel
theorem dX8_lay_13 : decode cX8_lay 13 = .ok (.laload, 1) := by decide +kernel
theorem dX8_lay_14 : decode cX8_lay 14 = .ok (.lconst 1, 1) := by decide +kernel
theorem dX8_lay_15 : decode cX8_lay 15 = .ok (.ladd, 1) := by decide +kernel
theorem dX8_lay_16 : decode cX8_lay 16 = .ok (.lastore, 1) := by decide +kernel
theorem dX8_lay_17 : decode cX8_lay 17 = .ok (.iload_n 2, 1) := by decide +kernel
theorem dX8_lay_18 : decode cX8_lay 18 = .ok (.ifCond .lt 16, 3) := by decide +kernel
theorem dX8_lay_21 : decode cX8_lay 21 = .ok (.aload_n 0, 1) := by decide +kernel
theorem dX8_lay_22 : decode cX8_lay 22 = .ok (.getfield 48, 3) := by decide +kernel
theorem dX8_lay_25 : decode cX8_lay 25 = .ok (.bipush 17, 2) := by decide +kernel
theorem dX8_lay_27 : decode cX8_lay 27 = .ok (.iload_n 2, 1) := by decide +kernel
theorem dX8_lay_28 : decode cX8_lay 28 = .ok (.imul, 1) := by decide +kernel
theorem dX8_lay_29 : decode cX8_lay 29 = .ok (.dup2, 1) := by decide +kernel
theorem dX8_lay_30 : decode cX8_lay 30 = .ok (.laload, 1) := by decide +kernel
theorem dX8_lay_31 : decode cX8_lay 31 = .ok (.lconst 1, 1) := by decide +kernel
theorem dX8_lay_32 : decode cX8_lay 32 = .ok (.ladd, 1) := by decide +kernel
theorem dX8_lay_33 : decode cX8_lay 33 = .ok (.lastore, 1) := by decide +kernel
theorem dX8_lay_34 : decode cX8_lay 34 = .ok (.iload_n 1, 1) := by decide +kernel
theorem dX8_lay_35 : decode cX8_lay 35 = .ok (.ifCond .lt 7, 3) := by decide +kernel
theorem dX8_lay_38 : decode cX8_lay 38 = .ok (.iload_n 2, 1) := by decide +kernel
theorem dX8_lay_39 : decode cX8_lay 39 = .ok (.ifCond .ge 4, 3) := by decide +kernel
theorem dX8_lay_42 : decode cX8_lay 42 = .ok (.return_, 1) := by decide +kernel
theorem dX8_lay_43 : decode cX8_lay 43 = .ok (.aload_n 0, 1) := by decide +kernel
theorem dX8_lay_44 : decode cX8_lay 44 = .ok (.getfield 48, 3) := by decide +kernel
theorem dX8_lay_47 : decode cX8_lay 47 = .ok (.bipush 16, 2) := by decide +kernel
theorem dX8_lay_49 : decode cX8_lay 49 = .ok (.iload_n 1, 1) := by decide +kernel
theorem dX8_lay_50 : decode cX8_lay 50 = .ok (.imul, 1) := by decide +kernel
theorem dX8_lay_51 : decode cX8_lay 51 = .ok (.iload_n 2, 1) := by decide +kernel
theorem dX8_lay_52 : decode cX8_lay 52 = .ok (.iadd, 1) := by decide +kernel
theorem dX8_lay_53 : decode cX8_lay 53 = .ok (.dup2, 1) := by decide +kernel
theorem dX8_lay_54 : decode cX8_lay 54 = .ok (.laload, 1) := by decide +kernel
theorem dX8_lay_55 : decode cX8_lay 55 = .ok (.lconst 1, 1) := by decide +kernel
theorem dX8_lay_56 : decode cX8_lay 56 = .ok (.lsub, 1) := by decide +kernel
theorem dX8_lay_57 : decode cX8_lay 57 = .ok (.lastore, 1) := by decide +kernel
theorem dX8_lay_58 : decode cX8_lay 58 = .ok (.aload_n 0, 1) := by decide +kernel
theorem dX8_lay_59 : decode cX8_lay 59 = .ok (.getfield 48, 3) := by decide +kernel
theorem dX8_lay_62 : decode cX8_lay 62 = .ok (.bipush 16, 2) := by decide +kernel
theorem dX8_lay_64 : decode cX8_lay 64 = .ok (.iload_n 2, 1) := by decide +kernel
theorem dX8_lay_65 : decode cX8_lay 65 = .ok (.imul, 1) := by decide +kernel
theorem dX8_lay_66 : decode cX8_lay 66 = .ok (.iload_n 1, 1) := by decide +kernel
theorem dX8_lay_67 : decode cX8_lay 67 = .ok (.iadd, 1) := by decide +kernel
theorem dX8_lay_68 : decode cX8_lay 68 = .ok (.dup2, 1) := by decide +kernel
theorem dX8_lay_69 : decode cX8_lay 69 = .ok (.laload, 1) := by decide +kernel
theorem dX8_lay_70 : decode cX8_lay 70 = .ok (.lconst 1, 1) := by decide +kernel
theorem dX8_lay_71 : decode cX8_lay 71 = .ok (.lsub, 1) := by decide +kernel
theorem dX8_lay_72 : decode cX8_lay 72 = .ok (.lastore, 1) := by decide +kernel
theorem dX8_lay_73 : decode cX8_lay 73 = .ok (.return_, 1) := by decide +kernel
theorem dX8_determinant_0 : decode cX8_determinant 0 = .ok (.lconst 1, 1) := by decide +kernel
theorem dX8_determinant_1 : decode cX8_determinant 1 = .ok (.lstore_n 2, 1) := by decide +kernel
theorem dX8_determinant_2 : decode cX8_determinant 2 = .ok (.iconst 0, 1) := by decide +kernel
theorem dX8_determinant_3 : decode cX8_determinant 3 = .ok (.istore 4, 2) := by decide +kernel
theorem dX8_determinant_5 : decode cX8_determinant 5 = .ok (.iload 4, 2) := by decide +kernel
theorem dX8_determinant_7 : decode cX8_determinant 7 = .ok (.iload_n 1, 1) := by decide +kernel
theorem dX8_determinant_8 : decode cX8_determinant 8 = .ok (.if_icmp .ge 119, 3) := by decide +kernel
theorem dX8_determinant_11 : decode cX8_determinant 11 = .ok (.aload_n 0, 1) := by decide +kernel
theorem dX8_determinant_12 : decode cX8_determinant 12 = .ok (.getfield 48, 3) := by decide +kernel
theorem dX8_determinant_15 : decode cX8_determinant 15 = .ok (.bipush 17, 2) := by decide +kernel
theorem dX8_determinant_17 : decode cX8_determinant 17 = .ok (.iload 4, 2) := by decide +kernel
theorem dX8_determinant_19 : decode cX8_determinant 19 = .ok (.imul, 1) := by decide +kernel
theorem dX8_determinant_20 : decode cX8_determinant 20 = .ok (.laload, 1) := by decide +kernel
theorem dX8_determinant_21 : decode cX8_determinant 21 = .ok (.lstore 5, 2) := by decide +kernel
theorem dX8_determinant_23 : decode cX8_determinant 23 = .ok (.iload 4, 2) := by decide +kernel
theorem dX8_determinant_25 : decode cX8_determinant 25 = .ok (.iconst 1, 1) := by decide +kernel
theorem dX8_determinant_26 : decode cX8_determinant 26 = .ok (.iadd, 1) := by decide +kernel
theorem dX8_determinant_27 : decode cX8_determinant 27 = .ok (.istore 7, 2) := by decide +kernel
theorem dX8_determinant_29 : decode cX8_determinant 29 = .ok (.iload 7, 2) := by decide +kernel
theorem dX8_determinant_31 : decode cX8_determinant 31 = .ok (.iload_n 1, 1) := by decide +kernel
theorem dX8_determinant_32 : decode cX8_determinant 32 = .ok (.if_icmp .ge 86, 3) := by decide +kernel
theorem dX8_determinant_35 : decode cX8_determinant 35 = .ok (.iload 4, 2) := by decide +kernel
theorem dX8_determinant_37 : decode cX8_determinant 37 = .ok (.iconst 1, 1) := by decide +kernel
theorem dX8_determinant_38 : decode cX8_determinant 38 = .ok (.iadd, 1) := by decide +kernel
theorem dX8_determinant_39 : decode cX8_determinant 39 = .ok (.istore 8, 2) := by decide +kernel
theorem dX8_determinant_41 : decode cX8_determinant 41 = .ok (.iload 8, 2) := by decide +kernel
theorem dX8_determinant_43 : decode cX8_determinant 43 = .ok (.iload_n 1, 1) := by decide +kernel
theorem dX8_determinant_44 : decode cX8_determinant 44 = .ok (.if_icmp .ge 68, 3) := by decide +kernel
theorem dX8_determinant_47 : decode cX8_determinant 47 = .ok (.aload_n 0, 1) := by decide +kernel
theorem dX8_determinant_48 : decode cX8_determinant 48 = .ok (.getfield 48, 3) := by decide +kernel
theorem dX8_determinant_51 : decode cX8_determinant 51 = .ok (.bipush 16, 2) := by decide +kernel
theorem dX8_determinant_53 : decode cX8_determinant 53 = .ok (.iload 7, 2) := by decide +kernel
theorem dX8_determinant_55 : decode cX8_determinant 55 = .ok (.imul, 1) := by decide +kernel
theorem dX8_determinant_56 : decode cX8_determinant 56 = .ok (.iload 8, 2) := by decide +kernel
theorem dX8_determinant_58 : decode cX8_determinant 58 = .ok (.iadd, 1) := by decide +kernel
theorem dX8_determinant_59 : decode cX8_determinant 59 = .ok (.aload_n 0, 1) := by decide +kernel
theorem dX8_determinant_60 : decode cX8_determinant 60 = .ok (.getfield 48, 3) := by decide +kernel
theorem dX8_determinant_63 : decode cX8_determinant 63 = .ok (.bipush 16, 2) := by decide +kernel
theorem dX8_determinant_65 : decode cX8_determinant 65 = .ok (.iload 7, 2) := by decide +kernel
theorem dX8_determinant_67 : decode cX8_determinant 67 = .ok (.imul, 1) := by decide +kernel
theorem dX8_determinant_68 : decode cX8_determinant 68 = .ok (.iload 8, 2) := by decide +kernel
theorem dX8_determinant_70 : decode cX8_determinant 70 = .ok (.iadd, 1) := by decide +kernel
theorem dX8_determinant_71 : decode cX8_determinant 71 = .ok (.laload, 1) := by decide +kernel
theorem dX8_determinant_72 : decode cX8_determinant 72 = .ok (.lload 5, 2) := by decide +kernel
theorem dX8_determinant_74 : decode cX8_determinant 74 = .ok (.lmul, 1) := by decide +kernel
theorem dX8_determinant_75 : decode cX8_determinant 75 = .ok (.aload_n 0, 1) := by decide +kernel
theorem dX8_determinant_76 : decode cX8_determinant 76 = .ok (.getfield 48, 3) := by decide +kernel
theorem dX8_determinant_79 : decode cX8_determinant 79 = .ok (.bipush 16, 2) := by decide +kernel
theorem dX8_determinant_81 : decode cX8_determinant 81 = .ok (.iload 7, 2) := by decide +kernel
theorem dX8_determinant_83 : decode cX8_determinant 83 = .ok (.imul, 1) := by decide +kernel
theorem dX8_determinant_84 : decode cX8_determinant 84 = .ok (.iload 4, 2) := by decide +kernel
theorem dX8_determinant_86 : decode cX8_determinant 86 = .ok (.iadd, 1) := by decide +kernel
theorem dX8_determinant_87 : decode cX8_determinant 87 = .ok (.laload, 1) := by decide +kernel
theorem dX8_determinant_88 : decode cX8_determinant 88 = .ok (.aload_n 0, 1) := by decide +kernel
theorem dX8_determinant_89 : decode cX8_determinant 89 = .ok (.getfield 48, 3) := by decide +kernel
theorem dX8_determinant_92 : decode cX8_determinant 92 = .ok (.bipush 16, 2) := by decide +kernel
theorem dX8_determinant_94 : decode cX8_determinant 94 = .ok (.iload 4, 2) := by decide +kernel
theorem dX8_determinant_96 : decode cX8_determinant 96 = .ok (.imul, 1) := by decide +kernel
theorem dX8_determinant_97 : decode cX8_determinant 97 = .ok (.iload 8, 2) := by decide +kernel
theorem dX8_determinant_99 : decode cX8_determinant 99 = .ok (.iadd, 1) := by decide +kernel
theorem dX8_determinant_100 : decode cX8_determinant 100 = .ok (.laload, 1) := by decide +kernel
theorem dX8_determinant_101 : decode cX8_determinant 101 = .ok (.lmul, 1) := by decide +kernel
theorem dX8_determinant_102 : decode cX8_determinant 102 = .ok (.lsub, 1) := by decide +kernel
theorem dX8_determinant_103 : decode cX8_determinant 103 = .ok (.lload_n 2, 1) := by decide +kernel
theorem dX8_determinant_104 : decode cX8_determinant 104 = .ok (.ldiv, 1) := by decide +kernel
theorem dX8_determinant_105 : decode cX8_determinant 105 = .ok (.lastore, 1) := by decide +kernel
theorem dX8_determinant_106 : decode cX8_determinant 106 = .ok (.iinc 8 1, 3) := by decide +kernel
theorem dX8_determinant_109 : decode cX8_determinant 109 = .ok (.goto (-68), 3) := by decide +kernel
theorem dX8_determinant_112 : decode cX8_determinant 112 = .ok (.iinc 7 1, 3) := by decide +kernel
theorem dX8_determinant_115 : decode cX8_determinant 115 = .ok (.goto (-86), 3) := by decide +kernel
theorem dX8_determinant_118 : decode cX8_determinant 118 = .ok (.lload 5, 2) := by decide +kernel
theorem dX8_determinant_120 : decode cX8_determinant 120 = .ok (.lstore_n 2, 1) := by decide +kernel
theorem dX8_determinant_121 : decode cX8_determinant 121 = .ok (.iinc 4 1, 3) := by decide +kernel
theorem dX8_determinant_124 : decode cX8_determinant 124 = .ok (.goto (-119), 3) := by decide +kernel
theorem dX8_determinant_127 : decode cX8_determinant 127 = .ok (.lload_n 2, 1) := by decide +kernel
theorem dX8_determinant_128 : decode cX8_determinant 128 = .ok (.lreturn, 1) := by decide +kernel
set_option maxRecDepth 20000 in
theorem ggX8_lightest_X8_isSet : GoodIn wsX8_lightest wsX8_isSet := goodIn_r _ [11, 2, 38, 39, 40, 41, 42, 43, 44, 45, 46, 47, 48, 49, 50, 51, 52, 53, 54, 55, 56, 57] (by decide +kernel) (by decide +kernel)
set_option maxRecDepth 20000 in
theorem gX8_lightest_X8_isSet : GoodIn wsX8_lightest (wsV RX8 89 RX8 yX8_isSet wsX8_isSet) := goodIn_app (goodIn_of _ (by decide +kernel)) ggX8_lightest_X8_isSet
set_option maxRecDepth 20000 in
theorem ggX8_lightest_X8_throwing : GoodIn wsX8_lightest wsX8_throwing := goodIn_r _ [15, 16, 38, 39, 40, 41, 42, 43, 44, 45, 46, 47, 48, 49, 50, 51, 52, 53, 54, 55, 56, 57] (by decide +kernel) (by decide +kernel)
set_option maxRecDepth 20000 in
theorem gX8_lightest_X8_throwing : GoodIn wsX8_lightest (wsV RX8 78 RX8 yX8_throwing wsX8_throwing) := goodIn_app (goodIn_of _ (by decide +kernel)) ggX8_lightest_X8_throwing
set_option maxRecDepth 20000 in
theorem ggX8_lightest_X8_beginsWith : GoodIn wsX8_lightest wsX8_beginsWith := goodIn_r _ [20, 2, 21, 22, 23, 10, 24, 25, 3, 26, 27, 28, 29, 30, 4, 5, 31, 32, 33, 38, 39, 40, 41, 42, 43, 44, 45, 46, 47, 48, 49, 50, 51, 52, 53, 54, 55, 56, 57] (by decide +kernel) (by decide +kernel)
set_option maxRecDepth 20000 in
theorem gX8_lightest_X8_beginsWith : GoodIn wsX8_lightest (wsV RX8 93 RX8 yX8_beginsWith wsX8_beginsWith) := goodIn_app (goodIn_of _ (by decide +kernel)) ggX8_lightest_X8_beginsWith
set_option maxRecDepth 20000 in
theorem ggX8_lightest_X8_weightOf : GoodIn wsX8_lightest wsX8_weightOf := goodIn_r _ [37, 2, 6, 38, 39, 40, 41, 42, 43, 44, 45, 46, 47, 48, 49, 50, 51, 52, 53, 54, 55, 56, 57] (by decide +kernel) (by decide +kernel)
set_option maxRecDepth 20000 in
theorem gX8_lightest_X8_weightOf : GoodIn wsX8_lightest (wsV RX8 113 RX8 yX8_weightOf wsX8_weightOf) := goodIn_app (goodIn_of _ (by decide +kernel)) ggX8_lightest_X8_weightOf
set_option maxRecDepth 20000 in
theorem ggX8_lightest_X8_joins : GoodIn wsX8_lightest wsX8_joins := goodIn_r _ [30, 4, 5, 3, 31, 25, 26, 32, 33, 38, 39, 40, 41, 42, 43, 44, 45, 46, 47, 48, 49, 50, 51, 52, 53, 54, 55, 56, 57] (by decide +kernel) (by decide +kernel)
set_option maxRecDepth 20000 in
theorem gX8_lightest_X8_joins : GoodIn wsX8_lightest (wsV RX8 70 RX8 yX8_joins wsX8_joins) := goodIn_app (goodIn_of _ (by decide +kernel)) ggX8_lightest_X8_joins
theorem dX8_lightest_0 : decode cX8_lightest 0 = .ok (.aload_n 0, 1) := by decide +kernel
theorem dX8_lightest_1 : decode cX8_lightest 1 = .ok (.aload_n 0, 1) := by decide +kernel
theorem dX8_lightest_2 : decode cX8_lightest 2 = .ok (.lload_n 1, 1) := by decide +kernel
theorem dX8_lightest_3 : decode cX8_lightest 3 = .ok (.invokevirtual 89, 3) := by decide +kernel
theorem dX8_lightest_6 : decode cX8_lightest 6 = .ok (.ifCond .ne 7, 3) := by decide +kernel
theorem dX8_lightest_9 : decode cX8_lightest 9 = .ok (.iconst 1, 1) := by decide +kernel
theorem dX8_lightest_10 : decode cX8_lightest 10 = .ok (.goto 4, 3) := by decide +kernel
theorem dX8_lightest_13 : decode cX8_lightest 13 = .ok (.iconst 0, 1) := by decide +kernel
theorem dX8_lightest_14 : decode cX8_lightest 14 = .ok (.iconst 0, 1) := by decide +kernel
theorem dX8_lightest_15 : decode cX8_lightest 15 = .ok (.invokevirtual 78, 3) := by decide +kernel
theorem dX8_lightest_18 : decode cX8_lightest 18 = .ok (.ifCond .eq 5, 3) := by decide +kernel
theorem dX8_lightest_21 : decode cX8_lightest 21 = .ok (.lconst 0, 1) := by decide +kernel
theorem dX8_lightest_22 : decode cX8_lightest 22 = .ok (.lreturn, 1) := by decide +kernel
theorem dX8_lightest_23 : decode cX8_lightest 23 = .ok (.aload_n 0, 1) := by decide +kernel
theorem dX8_lightest_24 : decode cX8_lightest 24 = .ok (.lload_n 1, 1) := by decide +kernel
theorem dX8_lightest_25 : decode cX8_lightest 25 = .ok (.invokevirtual 93, 3) := by decide +kernel
theorem dX8_lightest_28 : decode cX8_lightest 28 = .ok (.ifCond .ne 7, 3) := by decide +kernel
theorem dX8_lightest_31 : decode cX8_lightest 31 = .ok (.ldc2_w 111, 3) := by decide +kernel
theorem dX8_lightest_34 : decode cX8_lightest 34 = .ok (.lreturn, 1) := by decide +kernel
theorem dX8_lightest_35 : decode cX8_lightest 35 = .ok (.aload_n 0, 1) := by decide +kernel
theorem dX8_lightest_36 : decode cX8_lightest 36 = .ok (.lload_n 1, 1) := by decide +kernel
theorem dX8_lightest_37 : decode cX8_lightest 37 = .ok (.invokevirtual 113, 3) := by decide +kernel
theorem dX8_lightest_40 : decode cX8_lightest 40 = .ok (.lstore_n 3, 1) := by decide +kernel
theorem dX8_lightest_41 : decode cX8_lightest 41 = .ok (.iconst 1, 1) := by decide +kernel
theorem dX8_lightest_42 : decode cX8_lightest 42 = .ok (.istore 5, 2) := by decide +kernel
theorem dX8_lightest_44 : decode cX8_lightest 44 = .ok (.iload 5, 2) := by decide +kernel
theorem dX8_lightest_46 : decode cX8_lightest 46 = .ok (.ifCond .eq 124, 3) := by decide +kernel
theorem dX8_lightest_49 : decode cX8_lightest 49 = .ok (.iconst (-1), 1) := by decide +kernel
theorem dX8_lightest_50 : decode cX8_lightest 50 = .ok (.istore 6, 2) := by decide +kernel
theorem dX8_lightest_52 : decode cX8_lightest 52 = .ok (.iconst 0, 1) := by decide +kernel
theorem dX8_lightest_53 : decode cX8_lightest 53 = .ok (.istore 7, 2) := by decide +kernel
theorem dX8_lightest_55 : decode cX8_lightest 55 = .ok (.iload 7, 2) := by decide +kernel
theorem dX8_lightest_57 : decode cX8_lightest 57 = .ok (.aload_n 0, 1) := by decide +kernel
theorem dX8_lightest_58 : decode cX8_lightest 58 = .ok (.getfield 61, 3) := by decide +kernel
theorem dX8_lightest_61 : decode cX8_lightest 61 = .ok (.if_icmp .ge 65, 3) := by decide +kernel
theorem dX8_lightest_64 : decode cX8_lightest 64 = .ok (.aload_n 0, 1) := by decide +kernel
theorem dX8_lightest_65 : decode cX8_lightest 65 = .ok (.getfield 27, 3) := by decide +kernel
theorem dX8_lightest_68 : decode cX8_lightest 68 = .ok (.aload_n 0, 1) := by decide +kernel
theorem dX8_lightest_69 : decode cX8_lightest 69 = .ok (.getfield 13, 3) := by decide +kernel
theorem dX8_lightest_72 : decode cX8_lightest 72 = .ok (.iload 7, 2) := by decide +kernel
theorem dX8_lightest_74 : decode cX8_lightest 74 = .ok (.iaload, 1) := by decide +kernel
theorem dX8_lightest_75 : decode cX8_lightest 75 = .ok (.iaload, 1) := by decide +kernel
theorem dX8_lightest_76 : decode cX8_lightest 76 = .ok (.aload_n 0, 1) := by decide +kernel
theorem dX8_lightest_77 : decode cX8_lightest 77 = .ok (.getfield 27, 3) := by decide +kernel
theorem dX8_lightest_80 : decode cX8_lightest 80 = .ok (.aload_n 0, 1) := by decide +kernel
theorem dX8_lightest_81 : decode cX8_lightest 81 = .ok (.getfield 17, 3) := by decide +kernel
theorem dX8_lightest_84 : decode cX8_lightest 84 = .ok (.iload 7, 2) := by decide +kernel
theorem dX8_lightest_86 : decode cX8_lightest 86 = .ok (.iaload, 1) := by decide +kernel
theorem dX8_lightest_87 : decode cX8_lightest 87 = .ok (.iaload, 1) := by decide +kernel
theorem dX8_lightest_88 : decode cX8_lightest 88 = .ok (.if_icmp .ne 6, 3) := by decide +kernel
theorem dX8_lightest_91 : decode cX8_lightest 91 = .ok (.goto 29, 3) := by decide +kernel
theorem dX8_lightest_94 : decode cX8_lightest 94 = .ok (.iload 6, 2) := by decide +kernel
theorem dX8_lightest_96 : decode cX8_lightest 96 = .ok (.ifCond .lt 20, 3) := by decide +kernel
theorem dX8_lightest_99 : decode cX8_lightest 99 = .ok (.aload_n 0, 1) := by decide +kernel
theorem dX8_lightest_100 : decode cX8_lightest 100 = .ok (.getfield 20, 3) := by decide +kernel
theorem dX8_lightest_103 : decode cX8_lightest 103 = .ok (.iload 7, 2) := by decide +kernel
theorem dX8_lightest_105 : decode cX8_lightest 105 = .ok (.iaload, 1) := by decide +kernel
theorem dX8_lightest_106 : decode cX8_lightest 106 = .ok (.aload_n 0, 1) := by decide +kernel
theorem dX8_lightest_107 : decode cX8_lightest 107 = .ok (.getfield 20, 3) := by decide +kernel
theorem dX8_lightest_110 : decode cX8_lightest 110 = .ok (.iload 6, 2) := by decide +kernel
theorem dX8_lightest_112 : decode cX8_lightest 112 = .ok (.iaload, 1) := by decide +kernel
theorem dX8_lightest_113 : decode cX8_lightest 113 = .ok (.if_icmp .ge 7, 3) := by decide +kernel
theorem dX8_lightest_116 : decode cX8_lightest 116 = .ok (.iload 7, 2) := by decide +kernel
theorem dX8_lightest_118 : decode cX8_lightest 118 = .ok (.istore 6, 2) := by decide +kernel
theorem dX8_lightest_120 : decode cX8_lightest 120 = .ok (.iinc 7 1, 3) := by decide +kernel
theorem dX8_lightest_123 : decode cX8_lightest 123 = .ok (.goto (-68), 3) := by decide +kernel
theorem dX8_lightest_126 : decode cX8_lightest 126 = .ok (.iload 6, 2) := by decide +kernel
theorem dX8_lightest_128 : decode cX8_lightest 128 = .ok (.ifCond .lt 16, 3) := by decide +kernel
theorem dX8_lightest_131 : decode cX8_lightest 131 = .ok (.aload_n 0, 1) := by decide +kernel
theorem dX8_lightest_132 : decode cX8_lightest 132 = .ok (.iload 6, 2) := by decide +kernel
theorem dX8_lightest_134 : decode cX8_lightest 134 = .ok (.invokevirtual 70, 3) := by decide +kernel
theorem dX8_lightest_137 : decode cX8_lightest 137 = .ok (.ifCond .eq 7, 3) := by decide +kernel
theorem dX8_lightest_140 : decode cX8_lightest 140 = .ok (.iconst 1, 1) := by decide +kernel
theorem dX8_lightest_141 : decode cX8_lightest 141 = .ok (.goto 4, 3) := by decide +kernel
theorem dX8_lightest_144 : decode cX8_lightest 144 = .ok (.iconst 0, 1) := by decide +kernel
theorem dX8_lightest_145 : decode cX8_lightest 145 = .ok (.istore 5, 2) := by decide +kernel
theorem dX8_lightest_147 : decode cX8_lightest 147 = .ok (.lload_n 3, 1) := by decide +kernel
theorem dX8_lightest_148 : decode cX8_lightest 148 = .ok (.iload 5, 2) := by decide +kernel
theorem dX8_lightest_150 : decode cX8_lightest 150 = .ok (.ifCond .eq 14, 3) := by decide +kernel
theorem dX8_lightest_153 : decode cX8_lightest 153 = .ok (.aload_n 0, 1) := by decide +kernel
theorem dX8_lightest_154 : decode cX8_lightest 154 = .ok (.getfield 20, 3) := by decide +kernel
theorem dX8_lightest_157 : decode cX8_lightest 157 = .ok (.iload 6, 2) := by decide +kernel
theorem dX8_lightest_159 : decode cX8_lightest 159 = .ok (.iaload, 1) := by decide +kernel
theorem dX8_lightest_160 : decode cX8_lightest 160 = .ok (.i2l, 1) := by decide +kernel
theorem dX8_lightest_161 : decode cX8_lightest 161 = .ok (.goto 4, 3) := by decide +kernel
theorem dX8_lightest_164 : decode cX8_lightest 164 = .ok (.lconst 0, 1) := by decide +kernel
theorem dX8_lightest_165 : decode cX8_lightest 165 = .ok (.ladd, 1) := by decide +kernel
theorem dX8_lightest_166 : decode cX8_lightest 166 = .ok (.lstore_n 3, 1) := by decide +kernel
theorem dX8_lightest_167 : decode cX8_lightest 167 = .ok (.goto (-123), 3) := by decide +kernel
theorem dX8_lightest_170 : decode cX8_lightest 170 = .ok (.lload_n 3, 1) := by decide +kernel
theorem dX8_lightest_171 : decode cX8_lightest 171 = .ok (.lreturn, 1) := by decide +kernel
set_option maxRecDepth 20000 in
theorem ggX8_spread_X8_dimension : GoodIn wsX8_spread wsX8_dimension := goodIn_r _ [9, 10, 11, 12, 13, 14, 8, 15, 16, 17, 18, 19, 2, 20, 21, 22, 23, 24, 25, 26, 27, 3, 28, 34, 35, 36, 37, 38, 39, 40, 41, 42, 43, 44, 45, 46, 47, 48, 49, 50, 51, 52, 53] (by decide +kernel) (by decide +kernel)
set_option maxRecDepth 20000 in
theorem gX8_spread_X8_dimension : GoodIn wsX8_spread (wsV RX8 86 RX8 yX8_dimension wsX8_dimension) := goodIn_app (goodIn_of _ (by decide +kernel)) ggX8_spread_X8_dimension
set_option maxRecDepth 20000 in
theorem ggX8_spread_X8_weightOf : GoodIn wsX8_spread wsX8_weightOf := goodIn_r _ [32, 10, 33, 34, 35, 36, 37, 38, 39, 40, 41, 42, 43, 44, 45, 46, 47, 48, 49, 50, 51, 52, 53] (by decide +kernel) (by decide +kernel)
set_option maxRecDepth 20000 in
theorem gX8_spread_X8_weightOf : GoodIn wsX8_spread (wsV RX8 113 RX8 yX8_weightOf wsX8_weightOf) := goodIn_app (goodIn_of _ (by decide +kernel)) ggX8_spread_X8_weightOf
theorem dX8_spread_0 : decode cX8_spread 0 = .ok (.iconst 1, 1) := by decide +kernel
theorem dX8_spread_1 : decode cX8_spread 1 = .ok (.aload_n 0, 1) := by decide +kernel
theorem dX8_spread_2 : decode cX8_spread 2 = .ok (.invokevirtual 86, 3) := by decide +kernel
theorem dX8_spread_5 : decode cX8_spread 5 = .ok (.ishl, 1) := by decide +kernel
theorem dX8_spread_6 : decode cX8_spread 6 = .ok (.istore_n 1, 1) := by decide +kernel
theorem dX8_spread_7 : decode cX8_spread 7 = .ok (.iconst 0, 1) := by decide +kernel
theorem dX8_spread_8 : decode cX8_spread 8 = .ok (.istore_n 2, 1) := by decide +kernel
theorem dX8_spread_9 : decode cX8_spread 9 = .ok (.iload_n 2, 1) := by decide +kernel
theorem dX8_spread_10 : decode cX8_spread 10 = .ok (.iload_n 1, 1) := by decide +kernel
theorem dX8_spread_11 : decode cX8_spread 11 = .ok (.if_icmp .ge 72, 3) := by decide +kernel
theorem dX8_spread_14 : decode cX8_spread 14 = .ok (.aload_n 0, 1) := by decide +kernel
theorem dX8_spread_15 : decode cX8_spread 15 = .ok (.getfield 39, 3) := by decide +kernel
theorem dX8_spread_18 : decode cX8_spread 18 = .ok (.iload_n 2, 1) := by decide +kernel
theorem dX8_spread_19 : decode cX8_spread 19 = .ok (.lconst 0, 1) := by decide +kernel
theorem dX8_spread_20 : decode cX8_spread 20 = .ok (.lastore, 1) := by decide +kernel
theorem dX8_spread_21 : decode cX8_spread 21 = .ok (.iconst 0, 1) := by decide +kernel
theorem dX8_spread_22 : decode cX8_spread 22 = .ok (.istore_n 3, 1) := by decide +kernel
theorem dX8_spread_23 : decode cX8_spread 23 = .ok (.iload_n 3, 1) := by decide +kernel
theorem dX8_spread_24 : decode cX8_spread 24 = .ok (.aload_n 0, 1) := by decide +kernel
theorem dX8_spread_25 : decode cX8_spread 25 = .ok (.getfield 64, 3) := by decide +kernel
theorem dX8_spread_28 : decode cX8_spread 28 = .ok (.if_icmp .ge 33, 3) := by decide +kernel
theorem dX8_spread_31 : decode cX8_spread 31 = .ok (.iload_n 2, 1) := by decide +kernel
theorem dX8_spread_32 : decode cX8_spread 32 = .ok (.iload_n 3, 1) := by decide +kernel
theorem dX8_spread_33 : decode cX8_spread 33 = .ok (.ishr, 1) := by decide +kernel
theorem dX8_spread_34 : decode cX8_spread 34 = .ok (.iconst 1, 1) := by decide +kernel
theorem dX8_spread_35 : decode cX8_spread 35 = .ok (.iand, 1) := by decide +kernel
theorem dX8_spread_36 : decode cX8_spread 36 = .ok (.iconst 1, 1) := by decide +kernel
theorem dX8_spread_37 : decode cX8_spread 37 = .ok (.if_icmp .ne 18, 3) := by decide +kernel
theorem dX8_spread_40 : decode cX8_spread 40 = .ok (.aload_n 0, 1) := by decide +kernel
theorem dX8_spread_41 : decode cX8_spread 41 = .ok (.getfield 39, 3) := by decide +kernel
theorem dX8_spread_44 : decode cX8_spread 44 = .ok (.iload_n 2, 1) := by decide +kernel
theorem dX8_spread_45 : decode cX8_spread 45 = .ok (.dup2, 1) := by decide +kernel
theorem dX8_spread_46 : decode cX8_spread 46 = .ok (.laload, 1) := by decide +kernel
theorem dX8_spread_47 : decode cX8_spread 47 = .ok (.aload_n 0, 1) := by decide +kernel
theorem dX8_spread_48 : decode cX8_spread 48 = .ok (.getfield 33, 3) := by decide +kernel
theorem dX8_spread_51 : decode cX8_spread 51 = .ok (.iload_n 3, 1) := by decide +kernel
theorem dX8_spread_52 : decode cX8_spread 52 = .ok (.laload, 1) := by decide +kernel
theorem dX8_spread_53 : decode cX8_spread 53 = .ok (.lxor, 1) := by decide +kernel
theorem dX8_spread_54 : decode cX8_spread 54 = .ok (.lastore, 1) := by decide +kernel
theorem dX8_spread_55 : decode cX8_spread 55 = .ok (.iinc 3 1, 3) := by decide +kernel
theorem dX8_spread_58 : decode cX8_spread 58 = .ok (.goto (-35), 3) := by decide +kernel
theorem dX8_spread_61 : decode cX8_spread 61 = .ok (.aload_n 0, 1) := by decide +kernel
theorem dX8_spread_62 : decode cX8_spread 62 = .ok (.getfield 42, 3) := by decide +kernel
theorem dX8_spread_65 : decode cX8_spread 65 = .ok (.iload_n 2, 1) := by decide +kernel
theorem dX8_spread_66 : decode cX8_spread 66 = .ok (.aload_n 0, 1) := by decide +kernel
theorem dX8_spread_67 : decode cX8_spread 67 = .ok (.aload_n 0, 1) := by decide +kernel
theorem dX8_spread_68 : decode cX8_spread 68 = .ok (.getfield 39, 3) := by decide +kernel
theorem dX8_spread_71 : decode cX8_spread 71 = .ok (.iload_n 2, 1) := by decide +kernel
theorem dX8_spread_72 : decode cX8_spread 72 = .ok (.laload, 1) := by decide +kernel
theorem dX8_spread_73 : decode cX8_spread 73 = .ok (.invokevirtual 113, 3) := by decide +kernel
theorem dX8_spread_76 : decode cX8_spread 76 = .ok (.lastore, 1) := by decide +kernel
theorem dX8_spread_77 : decode cX8_spread 77 = .ok (.iinc 2 1, 3) := by decide +kernel
theorem dX8_spread_80 : decode cX8_spread 80 = .ok (.goto (-71), 3) := by decide +kernel
theorem dX8_spread_83 : decode cX8_spread 83 = .ok (.iload_n 1, 1) := by decide +kernel
theorem dX8_spread_84 : decode cX8_spread 84 = .ok (.ireturn, 1) := by decide +kernel

theorem dX7_edge_88 : decode cX7_edge 88 = .ok (.iload_n 2, 1) := by decide +kernel
theorem dX7_edge_89 : decode cX7_edge 89 = .ok (.invokevirtual 95, 3) := by decide +kernel
theorem dX7_edge_92 : decode cX7_edge 92 = .ok (.ifCond .eq 13, 3) := by decide +kernel
theorem dX7_edge_95 : decode cX7_edge 95 = .ok (.new 86, 3) := by decide +kernel
theorem dX7_edge_98 : decode cX7_edge 98 = .ok (.dup, 1) := by decide +kernel
theorem dX7_edge_99 : decode cX7_edge 99 = .ok (.ldc 99, 2) := by decide +kernel
theorem dX7_edge_101 : decode cX7_edge 101 = .ok (.invokespecial 90, 3) := by decide +kernel
theorem dX7_edge_104 : decode cX7_edge 104 = .ok (.athrow, 1) := by decide +kernel
theorem dX7_edge_105 : decode cX7_edge 105 = .ok (.aload_n 0, 1) := by decide +kernel
theorem dX7_edge_106 : decode cX7_edge 106 = .ok (.getfield 10, 3) := by decide +kernel
theorem dX7_edge_109 : decode cX7_edge 109 = .ok (.iload_n 1, 1) := by decide +kernel
theorem dX7_edge_110 : decode cX7_edge 110 = .ok (.iload_n 2, 1) := by decide +kernel
theorem dX7_edge_111 : decode cX7_edge 111 = .ok (.iload_n 3, 1) := by decide +kernel
theorem dX7_edge_112 : decode cX7_edge 112 = .ok (.invokevirtual 101, 3) := by decide +kernel
theorem dX7_edge_115 : decode cX7_edge 115 = .ok (.ireturn, 1) := by decide +kernel
set_option maxRecDepth 20000 in
theorem ggX7_drop_X2_removeLast : GoodIn wsX7_drop wsX2_removeLast := goodIn_r _ [8, 9, 18, 19, 20, 21, 22] (by decide +kernel) (by decide +kernel)
set_option maxRecDepth 20000 in
theorem gX7_drop_X2_removeLast : GoodIn wsX7_drop (wsV RX7 107 RX2 yX2_removeLast wsX2_removeLast) := goodIn_app (goodIn_of _ (by decide +kernel)) ggX7_drop_X2_removeLast
theorem dX7_drop_0 : decode cX7_drop 0 = .ok (.aload_n 0, 1) := by decide +kernel
theorem dX7_drop_1 : decode cX7_drop 1 = .ok (.getfield 10, 3) := by decide +kernel
theorem dX7_drop_4 : decode cX7_drop 4 = .ok (.getfield 69, 3) := by decide +kernel
theorem dX7_drop_7 : decode cX7_drop 7 = .ok (.ifCond .ne 13, 3) := by decide +kernel
theorem dX7_drop_10 : decode cX7_drop 10 = .ok (.new 86, 3) := by decide +kernel
theorem dX7_drop_13 : decode cX7_drop 13 = .ok (.dup, 1) := by decide +kernel
theorem dX7_drop_14 : decode cX7_drop 14 = .ok (.ldc 105, 2) := by decide +kernel
theorem dX7_drop_16 : decode cX7_drop 16 = .ok (.invokespecial 90, 3) := by decide +kernel
theorem dX7_drop_19 : decode cX7_drop 19 = .ok (.athrow, 1) := by decide +kernel
theorem dX7_drop_20 : decode cX7_drop 20 = .ok (.aload_n 0, 1) := by decide +kernel
theorem dX7_drop_21 : decode cX7_drop 21 = .ok (.getfield 10, 3) := by decide +kernel
theorem dX7_drop_24 : decode cX7_drop 24 = .ok (.invokevirtual 107, 3) := by decide +kernel
theorem dX7_drop_27 : decode cX7_drop 27 = .ok (.ireturn, 1) := by decide +kernel
set_option maxRecDepth 20000 in
theorem ggX7_forests_X7_checkEdges : GoodIn wsX7_forests wsX7_checkEdges := goodIn_ca (goodIn_r _ [8, 9, 10, 2, 57, 58, 59, 60, 61, 62, 63, 64, 65, 66, 67, 68, 69] (by decide +kernel) (by decide +kernel)) (goodIn_sub (fun _ h => List.mem_cons_of_mem _ (List.mem_append_right _ h)) (by decide +kernel))
set_option maxRecDepth 20000 in
theorem gX7_forests_X7_checkEdges : GoodIn wsX7_forests (wsV RX7 110 RX7 yX7_checkEdges wsX7_checkEdges) := goodIn_app (goodIn_of _ (by decide +kernel)) ggX7_forests_X7_checkEdges
set_option maxRecDepth 20000 in
theorem ggX7_forests_X7_joinSet : GoodIn wsX7_forests wsX7_joinSet := goodIn_r _ [14, 3, 2, 15, 16, 17, 18, 19, 20, 21, 22, 23, 24, 25, 7, 26, 27, 28, 29, 30, 31, 32, 33, 34, 35, 36, 37, 38, 57, 58, 59, 60, 61, 62, 63, 64, 65, 66, 67, 68, 69, 70, 71, 72, 73] (by decide +kernel) (by decide +kernel)
set_option maxRecDepth 20000 in
theorem gX7_forests_X7_joinSet : GoodIn wsX7_forests (wsV RX7 114 RX7 yX7_joinSet wsX7_joinSet) := goodIn_app (goodIn_of _ (by decide +kernel)) ggX7_forests_X7_joinSet
set_option maxRecDepth 20000 in
theorem ggX7_forests_X1_count : GoodIn wsX7_forests wsX1_count := goodIn_r _ [43, 44, 45, 46, 47, 48, 49, 50, 51, 42, 52, 53, 54, 55, 56, 65, 66, 67, 68, 69, 74, 70, 71, 72, 73] (by decide +kernel) (by decide +kernel)
set_option maxRecDepth 20000 in
theorem gX7_forests_X1_count : GoodIn wsX7_forests (wsV RX7 118 RX1 yX1_count wsX1_count) := goodIn_app (goodIn_of _ (by decide +kernel)) ggX7_forests_X1_count
theorem dX7_forests_0 : decode cX7_forests 0 = .ok (.aload_n 0, 1) := by decide +kernel
theorem dX7_forests_1 : decode cX7_forests 1 = .ok (.lload_n 1, 1) := by decide +kernel
theorem dX7_forests_2 : decode cX7_forests 2 = .ok (.invokevirtual 110, 3) := by decide +kernel
theorem dX7_forests_5 : decode cX7_forests 5 = .ok (.aload_n 0, 1) := by decide +kernel
theorem dX7_forests_6 : decode cX7_forests 6 = .ok (.lload_n 1, 1) := by decide +kernel
theorem dX7_forests_7 : decode cX7_forests 7 = .ok (.invokevirtual 114, 3) := by decide +kernel
theorem dX7_forests_10 : decode cX7_forests 10 = .ok (.ifCond .eq 5, 3) := by decide +kernel
theorem dX7_forests_13 : decode cX7_forests 13 = .ok (.lconst 0, 1) := by decide +kernel
theorem dX7_forests_14 : decode cX7_forests 14 = .ok (.lreturn, 1) := by decide +kernel
theorem dX7_forests_15 : decode cX7_forests 15 = .ok (.aload_n 0, 1) := by decide +kernel
theorem dX7_forests_16 : decode cX7_forests 16 = .ok (.getfield 47, 3) := by decide +kernel
theorem dX7_forests_19 : decode cX7_forests 19 = .ok (.aload_n 0, 1) := by decide +kernel
theorem dX7_forests_20 : decode cX7_forests 20 = .ok (.getfield 10, 3) := by decide +kernel
theorem dX7_forests_23 : decode cX7_forests 23 = .ok (.aload_n 0, 1) := by decide +kernel
theorem dX7_forests_24 : decode cX7_forests 24 = .ok (.getfield 26, 3) := by decide +kernel
theorem dX7_forests_27 : decode cX7_forests 27 = .ok (.invokevirtual 118, 3) := by decide +kernel
theorem dX7_forests_30 : decode cX7_forests 30 = .ok (.lreturn, 1) := by decide +kernel
set_option maxRecDepth 20000 in
theorem ggX7_lightest_X7_checkEdges : GoodIn wsX7_lightest wsX7_checkEdges := goodIn_ca (goodIn_r _ [7, 8, 9, 2, 73, 74, 75, 76, 77, 78, 79, 80, 81, 82, 83, 84, 85] (by decide +kernel) (by decide +kernel)) (goodIn_sub (fun _ h => List.mem_cons_of_mem _ (List.mem_append_right _ h)) (by decide +kernel))
set_option maxRecDepth 20000 in
theorem gX7_lightest_X7_checkEdges : GoodIn wsX7_lightest (wsV RX7 110 RX7 yX7_checkEdges wsX7_checkEdges) := goodIn_app (goodIn_of _ (by decide +kernel)) ggX7_lightest_X7_checkEdges
set_option maxRecDepth 20000 in
theorem ggX7_lightest_X7_joinSet : GoodIn wsX7_lightest wsX7_joinSet := goodIn_r _ [13, 14, 2, 15, 16, 17, 18, 19, 20, 21, 22, 23, 24, 25, 6, 26, 27, 28, 29, 30, 31, 32, 33, 34, 35, 36, 37, 38, 73, 74, 75, 76, 77, 78, 79, 80, 81, 82, 83, 84, 85, 86, 87, 88, 89] (by decide +kernel) (by decide +kernel)
set_option maxRecDepth 20000 in
theorem gX7_lightest_X7_joinSet : GoodIn wsX7_lightest (wsV RX7 114 RX7 yX7_joinSet wsX7_joinSet) := goodIn_app (goodIn_of _ (by decide +kernel)) ggX7_lightest_X7_joinSet
set_option maxRecDepth 20000 in
theorem ggX7_lightest_X2_weigh : GoodIn wsX7_lightest wsX2_weigh := goodIn_r _ [43, 44, 45, 46, 42, 47, 48, 49, 50, 51, 52, 53, 54, 55, 56, 57, 58, 59, 60, 61, 62, 63, 25, 6, 26, 81, 82, 83, 84, 85] (by decide +kernel) (by decide +kernel)
set_option maxRecDepth 20000 in
theorem gX7_lightest_X2_weigh : GoodIn wsX7_lightest (wsV RX7 124 RX2 yX2_weigh wsX2_weigh) := goodIn_app (goodIn_of _ (by decide +kernel)) ggX7_lightest_X2_weigh
set_option maxRecDepth 20000 in
theorem ggX7_lightest_X7_weightOfLightestJoins : GoodIn wsX7_lightest wsX7_weightOfLightestJoins := goodIn_r _ [67, 2, 14, 68, 69, 70, 6, 71, 72, 32, 33, 18, 34, 22, 27, 28, 29, 30, 23, 31, 35, 36, 37, 38, 20, 21, 73, 74, 75, 76, 77, 78, 79, 80, 81, 82, 83, 84, 85, 86, 87, 88, 89] (by decide +kernel) (by decide +kernel)
set_option maxRecDepth 20000 in
theorem gX7_lightest_X7_weightOfLightestJoins : GoodIn wsX7_lightest (wsV RX7 128 RX7 yX7_weightOfLightestJoins wsX7_weightOfLightestJoins) := goodIn_app (goodIn_of _ (by decide +kernel)) ggX7_lightest_X7_weightOfLightestJoins
theorem dX7_lightest_0 : decode cX7_lightest 0 = .ok (.aload_n 0, 1) := by decide +kernel
theorem dX7_lightest_1 : decode cX7_lightest 1 = .ok (.lload_n 1, 1) := by decide +kernel
theorem dX7_lightest_2 : decode cX7_lightest 2 = .ok (.invokevirtual 110, 3) := by decide +kernel
theorem dX7_lightest_5 : decode cX7_lightest 5 = .ok (.aload_n 0, 1) := by decide +kernel
theorem dX7_lightest_6 : decode cX7_lightest 6 = .ok (.lload_n 1, 1) := by decide +kernel
theorem dX7_lightest_7 : decode cX7_lightest 7 = .ok (.invokevirtual 114, 3) := by decide +kernel
theorem dX7_lightest_10 : decode cX7_lightest 10 = .ok (.ifCond .eq 7, 3) := by decide +kernel
theorem dX7_lightest_13 : decode cX7_lightest 13 = .ok (.ldc2_w 122, 3) := by decide +kernel
theorem dX7_lightest_16 : decode cX7_lightest 16 = .ok (.lreturn, 1) := by decide +kernel
theorem dX7_lightest_17 : decode cX7_lightest 17 = .ok (.aload_n 0, 1) := by decide +kernel
theorem dX7_lightest_18 : decode cX7_lightest 18 = .ok (.getfield 10, 3) := by decide +kernel
theorem dX7_lightest_21 : decode cX7_lightest 21 = .ok (.lload_n 1, 1) := by decide +kernel
theorem dX7_lightest_22 : decode cX7_lightest 22 = .ok (.invokevirtual 124, 3) := by decide +kernel
theorem dX7_lightest_25 : decode cX7_lightest 25 = .ok (.aload_n 0, 1) := by decide +kernel
theorem dX7_lightest_26 : decode cX7_lightest 26 = .ok (.invokevirtual 128, 3) := by decide +kernel
theorem dX7_lightest_29 : decode cX7_lightest 29 = .ok (.ladd, 1) := by decide +kernel
theorem dX7_lightest_30 : decode cX7_lightest 30 = .ok (.lreturn, 1) := by decide +kernel
set_option maxRecDepth 20000 in
theorem ggX7_isCycle_X7_checkEdges : GoodIn wsX7_isCycle wsX7_checkEdges := goodIn_ca (goodIn_r _ [6, 7, 8, 1, 46, 47, 48, 49, 50, 51, 52, 53, 54, 55, 56, 57, 58] (by decide +kernel) (by decide +kernel)) (goodIn_sub (fun _ h => List.mem_cons_of_mem _ (List.mem_append_right _ h)) (by decide +kernel))
set_option maxRecDepth 20000 in
theorem gX7_isCycle_X7_checkEdges : GoodIn wsX7_isCycle (wsV RX7 110 RX7 yX7_checkEdges wsX7_checkEdges) := goodIn_app (goodIn_of _ (by decide +kernel)) ggX7_isCycle_X7_checkEdges
set_option maxRecDepth 20000 in
theorem ggX7_isCycle_X2_isEven : GoodIn wsX7_isCycle wsX2_isEven := goodIn_r _ [13, 14, 15, 16, 17, 5, 18, 54, 55, 56, 57, 58] (by decide +kernel) (by decide +kernel)
set_option maxRecDepth 20000 in
theorem gX7_isCycle_X2_isEven : GoodIn wsX7_isCycle (wsV RX7 132 RX2 yX2_isEven wsX2_isEven) := goodIn_app (goodIn_of _ (by decide +kernel)) ggX7_isCycle_X2_isEven
set_option maxRecDepth 20000 in
theorem ggX7_isCycle_X7_joinSet : GoodIn wsX7_isCycle wsX7_joinSet := goodIn_r _ [22, 23, 1, 24, 25, 26, 27, 28, 29, 30, 31, 32, 33, 17, 5, 18, 34, 35, 36, 37, 38, 39, 40, 41, 42, 43, 44, 45, 46, 47, 48, 49, 50, 51, 52, 53, 54, 55, 56, 57, 58, 59, 60, 61, 62] (by decide +kernel) (by decide +kernel)
set_option maxRecDepth 20000 in
theorem gX7_isCycle_X7_joinSet : GoodIn wsX7_isCycle (wsV RX7 114 RX7 yX7_joinSet wsX7_joinSet) := goodIn_app (goodIn_of _ (by decide +kernel)) ggX7_isCycle_X7_joinSet
theorem dX7_isCycle_0 : decode cX7_isCycle 0 = .ok (.aload_n 0, 1) := by decide +kernel
theorem dX7_isCycle_1 : decode cX7_isCycle 1 = .ok (.lload_n 1, 1) := by decide +kernel
theorem dX7_isCycle_2 : decode cX7_isCycle 2 = .ok (.invokevirtual 110, 3) := by decide +kernel
theorem dX7_isCycle_5 : decode cX7_isCycle 5 = .ok (.aload_n 0, 1) := by decide +kernel
theorem dX7_isCycle_6 : decode cX7_isCycle 6 = .ok (.getfield 10, 3) := by decide +kernel
theorem dX7_isCycle_9 : decode cX7_isCycle 9 = .ok (.lload_n 1, 1) := by decide +kernel
theorem dX7_isCycle_10 : decode cX7_isCycle 10 = .ok (.invokevirtual 132, 3) := by decide +kernel
theorem dX7_isCycle_13 : decode cX7_isCycle 13 = .ok (.ifCond .ne 5, 3) := by decide +kernel
theorem dX7_isCycle_16 : decode cX7_isCycle 16 = .ok (.iconst 0, 1) := by decide +kernel
theorem dX7_isCycle_17 : decode cX7_isCycle 17 = .ok (.ireturn, 1) := by decide +kernel
theorem dX7_isCycle_18 : decode cX7_isCycle 18 = .ok (.aload_n 0, 1) := by decide +kernel
theorem dX7_isCycle_19 : decode cX7_isCycle 19 = .ok (.lload_n 1, 1) := by decide +kernel
theorem dX7_isCycle_20 : decode cX7_isCycle 20 = .ok (.invokevirtual 114, 3) := by decide +kernel
theorem dX7_isCycle_23 : decode cX7_isCycle 23 = .ok (.iconst 1, 1) := by decide +kernel
theorem dX7_isCycle_24 : decode cX7_isCycle 24 = .ok (.if_icmp .ne 7, 3) := by decide +kernel
theorem dX7_isCycle_27 : decode cX7_isCycle 27 = .ok (.iconst 2, 1) := by decide +kernel
theorem dX7_isCycle_28 : decode cX7_isCycle 28 = .ok (.goto 4, 3) := by decide +kernel
theorem dX7_isCycle_31 : decode cX7_isCycle 31 = .ok (.iconst 1, 1) := by decide +kernel
theorem dX7_isCycle_32 : decode cX7_isCycle 32 = .ok (.ireturn, 1) := by decide +kernel
set_option maxRecDepth 20000 in
theorem ggX7_through_X6_seek : GoodIn wsX7_through wsX6_seek := goodIn_r _ [10, 11, 12, 13, 14, 15, 16, 9, 17, 18, 19, 20, 21, 34, 35, 36, 37, 38, 39, 40] (by decide +kernel) (by decide +kernel)
set_option maxRecDepth 20000 in
theorem gX7_through_X6_seek : GoodIn wsX7_through (wsV RX7 145 RX6 yX6_seek wsX6_seek) := goodIn_app (goodIn_of _ (by decide +kernel)) ggX7_through_X6_seek
set_option maxRecDepth 20000 in
theorem ggX7_through_X6_reaches : GoodIn wsX7_through wsX6_reaches := goodIn_r _ [25, 11, 12, 39, 40] (by decide +kernel) (by decide +kernel)
set_option maxRecDepth 20000 in
theorem gX7_through_X6_reaches : GoodIn wsX7_through (wsV RX7 152 RX6 yX6_reaches wsX6_reaches) := goodIn_app (goodIn_of _ (by decide +kernel)) ggX7_through_X6_reaches
theorem dX7_through_0 : decode cX7_through 0 = .ok (.iload_n 1, 1) := by decide +kernel
theorem dX7_through_1 : decode cX7_through 1 = .ok (.ifCond .lt 14, 3) := by decide +kernel
theorem dX7_through_4 : decode cX7_through 4 = .ok (.iload_n 1, 1) := by decide +kernel
theorem dX7_through_5 : decode cX7_through 5 = .ok (.aload_n 0, 1) := by decide +kernel
theorem dX7_through_6 : decode cX7_through 6 = .ok (.getfield 10, 3) := by decide +kernel
theorem dX7_through_9 : decode cX7_through 9 = .ok (.getfield 69, 3) := by decide +kernel
theorem dX7_through_12 : decode cX7_through 12 = .ok (.if_icmp .lt 13, 3) := by decide +kernel
theorem dX7_through_15 : decode cX7_through 15 = .ok (.new 136, 3) := by decide +kernel
theorem dX7_through_18 : decode cX7_through 18 = .ok (.dup, 1) := by decide +kernel
theorem dX7_through_19 : decode cX7_through 19 = .ok (.ldc 138, 2) := by decide +kernel
theorem dX7_through_21 : decode cX7_through 21 = .ok (.invokespecial 140, 3) := by decide +kernel
theorem dX7_through_24 : decode cX7_through 24 = .ok (.athrow, 1) := by decide +kernel
theorem dX7_through_25 : decode cX7_through 25 = .ok (.aload_n 0, 1) := by decide +kernel
theorem dX7_through_26 : decode cX7_through 26 = .ok (.getfield 33, 3) := by decide +kernel
theorem dX7_through_29 : decode cX7_through 29 = .ok (.aload_n 0, 1) := by decide +kernel
theorem dX7_through_30 : decode cX7_through 30 = .ok (.getfield 10, 3) := by decide +kernel
theorem dX7_through_33 : decode cX7_through 33 = .ok (.aload_n 0, 1) := by decide +kernel
theorem dX7_through_34 : decode cX7_through 34 = .ok (.getfield 10, 3) := by decide +kernel
theorem dX7_through_37 : decode cX7_through 37 = .ok (.getfield 141, 3) := by decide +kernel
theorem dX7_through_40 : decode cX7_through 40 = .ok (.iload_n 1, 1) := by decide +kernel
theorem dX7_through_41 : decode cX7_through 41 = .ok (.iaload, 1) := by decide +kernel
theorem dX7_through_42 : decode cX7_through 42 = .ok (.iload_n 1, 1) := by decide +kernel
theorem dX7_through_43 : decode cX7_through 43 = .ok (.invokevirtual 145, 3) := by decide +kernel
theorem dX7_through_46 : decode cX7_through 46 = .ok (.aload_n 0, 1) := by decide +kernel
theorem dX7_through_47 : decode cX7_through 47 = .ok (.getfield 10, 3) := by decide +kernel
theorem dX7_through_50 : decode cX7_through 50 = .ok (.getfield 149, 3) := by decide +kernel
theorem dX7_through_53 : decode cX7_through 53 = .ok (.iload_n 1, 1) := by decide +kernel
theorem dX7_through_54 : decode cX7_through 54 = .ok (.iaload, 1) := by decide +kernel
theorem dX7_through_55 : decode cX7_through 55 = .ok (.istore_n 2, 1) := by decide +kernel
theorem dX7_through_56 : decode cX7_through 56 = .ok (.aload_n 0, 1) := by decide +kernel
theorem dX7_through_57 : decode cX7_through 57 = .ok (.getfield 33, 3) := by decide +kernel
theorem dX7_through_60 : decode cX7_through 60 = .ok (.iload_n 2, 1) := by decide +kernel
theorem dX7_through_61 : decode cX7_through 61 = .ok (.invokevirtual 152, 3) := by decide +kernel
theorem dX7_through_64 : decode cX7_through 64 = .ok (.ifCond .eq 26, 3) := by decide +kernel
theorem dX7_through_67 : decode cX7_through 67 = .ok (.aload_n 0, 1) := by decide +kernel
theorem dX7_through_68 : decode cX7_through 68 = .ok (.getfield 33, 3) := by decide +kernel
theorem dX7_through_71 : decode cX7_through 71 = .ok (.getfield 155, 3) := by decide +kernel
theorem dX7_through_74 : decode cX7_through 74 = .ok (.iload_n 2, 1) := by decide +kernel
theorem dX7_through_75 : decode cX7_through 75 = .ok (.laload, 1) := by decide +kernel
theorem dX7_through_76 : decode cX7_through 76 = .ok (.aload_n 0, 1) := by decide +kernel
theorem dX7_through_77 : decode cX7_through 77 = .ok (.getfield 10, 3) := by decide +kernel
theorem dX7_through_80 : decode cX7_through 80 = .ok (.getfield 158, 3) := by decide +kernel
theorem dX7_through_83 : decode cX7_through 83 = .ok (.iload_n 1, 1) := by decide +kernel
theorem dX7_through_84 : decode cX7_through 84 = .ok (.iaload, 1) := by decide +kernel
theorem dX7_through_85 : decode cX7_through 85 = .ok (.i2l, 1) := by decide +kernel
theorem dX7_through_86 : decode cX7_through 86 = .ok (.ladd, 1) := by decide +kernel
theorem dX7_through_87 : decode cX7_through 87 = .ok (.goto 6, 3) := by decide +kernel
theorem dX7_through_90 : decode cX7_through 90 = .ok (.ldc2_w 122, 3) := by decide +kernel
theorem dX7_through_93 : decode cX7_through 93 = .ok (.lreturn, 1) := by decide +kernel
set_option maxRecDepth 20000 in
theorem ggX7_basis_X7_joinWhole : GoodIn wsX7_basis wsX7_joinWhole := goodIn_r _ [10, 4, 11, 12, 13, 9, 14, 15, 16, 17, 18, 19, 20, 21, 22, 23, 24, 25, 26, 27, 28, 29, 30, 31, 32, 33, 34, 35, 36, 37, 38, 39, 90, 91, 92, 93, 94, 95, 96, 97, 104, 105, 106, 107, 108, 109, 110, 111, 112] (by decide +kernel) (by decide +kernel)
set_option maxRecDepth 20000 in
theorem gX7_basis_X7_joinWhole : GoodIn wsX7_basis (wsV RX7 91 RX7 yX7_joinWhole wsX7_joinWhole) := goodIn_app (goodIn_of _ (by decide +kernel)) ggX7_basis_X7_joinWhole
set_option maxRecDepth 20000 in
theorem ggX7_basis_X4_find : GoodIn wsX7_basis wsX4_find := goodIn_r _ [44, 45, 46, 47, 48, 49, 50, 51, 52, 43, 53, 54, 55, 56, 57, 58, 59, 60, 61, 62, 63, 64, 65, 66, 67, 68, 69, 70, 71, 72, 73, 74, 75, 76, 77, 78, 79, 80, 81, 82, 83, 84, 85, 86, 87, 88, 89, 98, 99, 100, 101, 102, 103, 104, 105, 106, 107, 108, 113, 114] (by decide +kernel) (by decide +kernel)
set_option maxRecDepth 20000 in
theorem gX7_basis_X4_find : GoodIn wsX7_basis (wsV RX7 163 RX4 yX4_find wsX4_find) := goodIn_app (goodIn_of _ (by decide +kernel)) ggX7_basis_X4_find
theorem dX7_basis_0 : decode cX7_basis 0 = .ok (.iload_n 1, 1) := by decide +kernel
theorem dX7_basis_1 : decode cX7_basis 1 = .ok (.ifCond .lt 11, 3) := by decide +kernel
theorem dX7_basis_4 : decode cX7_basis 4 = .ok (.iload_n 1, 1) := by decide +kernel
theorem dX7_basis_5 : decode cX7_basis 5 = .ok (.aload_n 0, 1) := by decide +kernel
theorem dX7_basis_6 : decode cX7_basis 6 = .ok (.invokevirtual 91, 3) := by decide +kernel
theorem dX7_basis_9 : decode cX7_basis 9 = .ok (.if_icmp .lt 13, 3) := by decide +kernel
theorem dX7_basis_12 : decode cX7_basis 12 = .ok (.new 136, 3) := by decide +kernel
theorem dX7_basis_15 : decode cX7_basis 15 = .ok (.dup, 1) := by decide +kernel
theorem dX7_basis_16 : decode cX7_basis 16 = .ok (.ldc 161, 2) := by decide +kernel
theorem dX7_basis_18 : decode cX7_basis 18 = .ok (.invokespecial 140, 3) := by decide +kernel
theorem dX7_basis_21 : decode cX7_basis 21 = .ok (.athrow, 1) := by decide +kernel
theorem dX7_basis_22 : decode cX7_basis 22 = .ok (.aload_n 0, 1) := by decide +kernel
theorem dX7_basis_23 : decode cX7_basis 23 = .ok (.getfield 40, 3) := by decide +kernel
theorem dX7_basis_26 : decode cX7_basis 26 = .ok (.aload_n 0, 1) := by decide +kernel
theorem dX7_basis_27 : decode cX7_basis 27 = .ok (.getfield 10, 3) := by decide +kernel
theorem dX7_basis_30 : decode cX7_basis 30 = .ok (.aload_n 0, 1) := by decide +kernel
theorem dX7_basis_31 : decode cX7_basis 31 = .ok (.getfield 33, 3) := by decide +kernel
theorem dX7_basis_34 : decode cX7_basis 34 = .ok (.invokevirtual 163, 3) := by decide +kernel
theorem dX7_basis_37 : decode cX7_basis 37 = .ok (.aload_n 0, 1) := by decide +kernel
theorem dX7_basis_38 : decode cX7_basis 38 = .ok (.getfield 40, 3) := by decide +kernel
theorem dX7_basis_41 : decode cX7_basis 41 = .ok (.getfield 167, 3) := by decide +kernel
theorem dX7_basis_44 : decode cX7_basis 44 = .ok (.iload_n 1, 1) := by decide +kernel
theorem dX7_basis_45 : decode cX7_basis 45 = .ok (.laload, 1) := by decide +kernel
theorem dX7_basis_46 : decode cX7_basis 46 = .ok (.lreturn, 1) := by decide +kernel
set_option maxRecDepth 20000 in
theorem ggX7_belongs_X7_checkEdges : GoodIn wsX7_belongs wsX7_checkEdges := goodIn_ca (goodIn_r _ [8, 9, 10, 1, 99, 100, 101, 102, 103, 104, 105, 106, 107, 108, 109, 110, 111] (by decide +kernel) (by decide +kernel)) (goodIn_sub (fun _ h => List.mem_cons_of_mem _ (List.mem_append_right _ h)) (by decide +kernel))
set_option maxRecDepth 20000 in
theorem gX7_belongs_X7_checkEdges : GoodIn wsX7_belongs (wsV RX7 110 RX7 yX7_checkEdges wsX7_checkEdges) := goodIn_app (goodIn_of _ (by decide +kernel)) ggX7_belongs_X7_checkEdges
set_option maxRecDepth 20000 in
theorem ggX7_belongs_X2_isEven : GoodIn wsX7_belongs wsX2_isEven := goodIn_r _ [15, 16, 17, 18, 19, 7, 20, 107, 108, 109, 110, 111] (by decide +kernel) (by decide +kernel)
set_option maxRecDepth 20000 in
theorem gX7_belongs_X2_isEven : GoodIn wsX7_belongs (wsV RX7 132 RX2 yX2_isEven wsX2_isEven) := goodIn_app (goodIn_of _ (by decide +kernel)) ggX7_belongs_X2_isEven
set_option maxRecDepth 20000 in
theorem ggX7_belongs_X4_find : GoodIn wsX7_belongs wsX4_find := goodIn_r _ [25, 26, 27, 28, 29, 30, 31, 32, 33, 24, 34, 35, 36, 37, 38, 39, 40, 41, 42, 43, 44, 45, 46, 47, 48, 49, 50, 51, 52, 53, 54, 55, 56, 57, 58, 59, 60, 61, 62, 63, 64, 65, 66, 67, 68, 69, 70, 112, 113, 114, 115, 116, 117, 107, 108, 109, 110, 111, 118, 119] (by decide +kernel) (by decide +kernel)
set_option maxRecDepth 20000 in
theorem gX7_belongs_X4_find : GoodIn wsX7_belongs (wsV RX7 163 RX4 yX4_find wsX4_find) := goodIn_app (goodIn_of _ (by decide +kernel)) ggX7_belongs_X4_find
set_option maxRecDepth 20000 in
theorem ggX7_belongs_X2_weigh : GoodIn wsX7_belongs wsX2_weigh := goodIn_r _ [74, 75, 76, 77, 14, 78, 79, 80, 81, 82, 83, 84, 85, 86, 87, 88, 89, 90, 91, 92, 93, 94, 19, 7, 20, 107, 108, 109, 110, 111] (by decide +kernel) (by decide +kernel)
set_option maxRecDepth 20000 in
theorem gX7_belongs_X2_weigh : GoodIn wsX7_belongs (wsV RX7 124 RX2 yX2_weigh wsX2_weigh) := goodIn_app (goodIn_of _ (by decide +kernel)) ggX7_belongs_X2_weigh
set_option maxRecDepth 20000 in
theorem ggX7_belongs_X4_isSumOfLighter : GoodIn wsX7_belongs wsX4_isSumOfLighter := goodIn_r _ [98, 26, 29, 27, 68, 69, 24, 70, 112, 113, 114, 115, 116, 117] (by decide +kernel) (by decide +kernel)
set_option maxRecDepth 20000 in
theorem gX7_belongs_X4_isSumOfLighter : GoodIn wsX7_belongs (wsV RX7 169 RX4 yX4_isSumOfLighter wsX4_isSumOfLighter) := goodIn_app (goodIn_of _ (by decide +kernel)) ggX7_belongs_X4_isSumOfLighter
theorem dX7_belongs_0 : decode cX7_belongs 0 = .ok (.aload_n 0, 1) := by decide +kernel
theorem dX7_belongs_1 : decode cX7_belongs 1 = .ok (.lload_n 1, 1) := by decide +kernel
theorem dX7_belongs_2 : decode cX7_belongs 2 = .ok (.invokevirtual 110, 3) := by decide +kernel
theorem dX7_belongs_5 : decode cX7_belongs 5 = .ok (.aload_n 0, 1) := by decide +kernel
theorem dX7_belongs_6 : decode cX7_belongs 6 = .ok (.getfield 10, 3) := by decide +kernel
theorem dX7_belongs_9 : decode cX7_belongs 9 = .ok (.lload_n 1, 1) := by decide +kernel
theorem dX7_belongs_10 : decode cX7_belongs 10 = .ok (.invokevirtual 132, 3) := by decide +kernel
theorem dX7_belongs_13 : decode cX7_belongs 13 = .ok (.ifCond .ne 5, 3) := by decide +kernel
theorem dX7_belongs_16 : decode cX7_belongs 16 = .ok (.iconst 0, 1) := by decide +kernel
theorem dX7_belongs_17 : decode cX7_belongs 17 = .ok (.ireturn, 1) := by decide +kernel
theorem dX7_belongs_18 : decode cX7_belongs 18 = .ok (.aload_n 0, 1) := by decide +kernel
theorem dX7_belongs_19 : decode cX7_belongs 19 = .ok (.getfield 40, 3) := by decide +kernel
theorem dX7_belongs_22 : decode cX7_belongs 22 = .ok (.aload_n 0, 1) := by decide +kernel
theorem dX7_belongs_23 : decode cX7_belongs 23 = .ok (.getfield 10, 3) := by decide +kernel
theorem dX7_belongs_26 : decode cX7_belongs 26 = .ok (.aload_n 0, 1) := by decide +kernel
theorem dX7_belongs_27 : decode cX7_belongs 27 = .ok (.getfield 33, 3) := by decide +kernel
theorem dX7_belongs_30 : decode cX7_belongs 30 = .ok (.invokevirtual 163, 3) := by decide +kernel
theorem dX7_belongs_33 : decode cX7_belongs 33 = .ok (.aload_n 0, 1) := by decide +kernel
theorem dX7_belongs_34 : decode cX7_belongs 34 = .ok (.getfield 40, 3) := by decide +kernel
theorem dX7_belongs_37 : decode cX7_belongs 37 = .ok (.lload_n 1, 1) := by decide +kernel
theorem dX7_belongs_38 : decode cX7_belongs 38 = .ok (.aload_n 0, 1) := by decide +kernel
theorem dX7_belongs_39 : decode cX7_belongs 39 = .ok (.getfield 10, 3) := by decide +kernel
theorem dX7_belongs_42 : decode cX7_belongs 42 = .ok (.lload_n 1, 1) := by decide +kernel
theorem dX7_belongs_43 : decode cX7_belongs 43 = .ok (.invokevirtual 124, 3) := by decide +kernel
theorem dX7_belongs_46 : decode cX7_belongs 46 = .ok (.invokevirtual 169, 3) := by decide +kernel
theorem dX7_belongs_49 : decode cX7_belongs 49 = .ok (.ifCond .ne 7, 3) := by decide +kernel
theorem dX7_belongs_52 : decode cX7_belongs 52 = .ok (.iconst 1, 1) := by decide +kernel
theorem dX7_belongs_53 : decode cX7_belongs 53 = .ok (.goto 4, 3) := by decide +kernel
theorem dX7_belongs_56 : decode cX7_belongs 56 = .ok (.iconst 0, 1) := by decide +kernel
theorem dX7_belongs_57 : decode cX7_belongs 57 = .ok (.ireturn, 1) := by decide +kernel
set_option maxRecDepth 20000 in
theorem ggX7_cycles_X0_count : GoodIn wsX7_cycles wsX0_count := goodIn_r _ [7, 8, 9, 10, 11, 12, 13, 14, 6, 15, 24, 25, 26, 27, 28, 29] (by decide +kernel) (by decide +kernel)
set_option maxRecDepth 20000 in
theorem gX7_cycles_X0_count : GoodIn wsX7_cycles (wsV RX7 173 RX0 yX0_count wsX0_count) := goodIn_app (goodIn_of _ (by decide +kernel)) ggX7_cycles_X0_count
theorem dX7_cycles_0 : decode cX7_cycles 0 = .ok (.aload_n 0, 1) := by decide +kernel
theorem dX7_cycles_1 : decode cX7_cycles 1 = .ok (.getfield 54, 3) := by decide +kernel
theorem dX7_cycles_4 : decode cX7_cycles 4 = .ok (.aload_n 0, 1) := by decide +kernel
theorem dX7_cycles_5 : decode cX7_cycles 5 = .ok (.getfield 10, 3) := by decide +kernel
theorem dX7_cycles_8 : decode cX7_cycles 8 = .ok (.invokevirtual 173, 3) := by decide +kernel
theorem dX7_cycles_11 : decode cX7_cycles 11 = .ok (.ireturn, 1) := by decide +kernel
set_option maxRecDepth 20000 in
theorem ggX7_light_X7_fillRings : GoodIn wsX7_light wsX7_fillRings := goodIn_r _ [7, 8, 2, 1, 9, 10, 11, 12, 13, 14, 15, 16, 17, 18, 19, 20, 21, 22, 23, 24, 25, 26, 27, 28, 29, 54, 55, 56, 57, 58, 59, 60, 61, 62, 63, 64, 65, 66, 67, 68, 69, 70] (by decide +kernel) (by decide +kernel)
set_option maxRecDepth 20000 in
theorem gX7_light_X7_fillRings : GoodIn wsX7_light (wsV RX7 176 RX7 yX7_fillRings wsX7_fillRings) := goodIn_app (goodIn_of _ (by decide +kernel)) ggX7_light_X7_fillRings
set_option maxRecDepth 20000 in
theorem ggX7_light_J6_numberOfTrailingZeros_0f7a4 : GoodIn wsX7_light wsJ6_numberOfTrailingZeros_0f7a4 := goodIn_r _ [33, 34] (by decide +kernel) (by decide +kernel)
set_option maxRecDepth 20000 in
theorem gX7_light_J6_numberOfTrailingZeros_0f7a4 : GoodIn wsX7_light (va_wsS RX7 179 yJ6_numberOfTrailingZeros_0f7a4 wsJ6_numberOfTrailingZeros_0f7a4) := goodIn_app (goodIn_of _ (by decide +kernel)) ggX7_light_J6_numberOfTrailingZeros_0f7a4
set_option maxRecDepth 20000 in
theorem ggX7_light_X2_gain : GoodIn wsX7_light wsX2_gain := goodIn_r _ [39, 40, 41, 42, 43, 44, 45, 46, 47, 48, 49, 50, 51, 31, 32, 33, 34, 52, 6, 53, 62, 63, 64, 65, 66] (by decide +kernel) (by decide +kernel)
set_option maxRecDepth 20000 in
theorem gX7_light_X2_gain : GoodIn wsX7_light (wsV RX7 185 RX2 yX2_gain wsX2_gain) := goodIn_app (goodIn_of _ (by decide +kernel)) ggX7_light_X2_gain
theorem dX7_light_0 : decode cX7_light 0 = .ok (.iconst 1, 1) := by decide +kernel
theorem dX7_light_1 : decode cX7_light 1 = .ok (.aload_n 0, 1) := by decide +kernel
theorem dX7_light_2 : decode cX7_light 2 = .ok (.invokevirtual 176, 3) := by decide +kernel
theorem dX7_light_5 : decode cX7_light 5 = .ok (.ishl, 1) := by decide +kernel
theorem dX7_light_6 : decode cX7_light 6 = .ok (.istore_n 3, 1) := by decide +kernel
theorem dX7_light_7 : decode cX7_light 7 = .ok (.lconst 0, 1) := by decide +kernel
theorem dX7_light_8 : decode cX7_light 8 = .ok (.lstore 4, 2) := by decide +kernel
theorem dX7_light_10 : decode cX7_light 10 = .ok (.lconst 0, 1) := by decide +kernel
theorem dX7_light_11 : decode cX7_light 11 = .ok (.lstore 6, 2) := by decide +kernel
theorem dX7_light_13 : decode cX7_light 13 = .ok (.lload 6, 2) := by decide +kernel
theorem dX7_light_15 : decode cX7_light 15 = .ok (.lload_n 1, 1) := by decide +kernel
theorem dX7_light_16 : decode cX7_light 16 = .ok (.lcmp, 1) := by decide +kernel
theorem dX7_light_17 : decode cX7_light 17 = .ok (.ifCond .gt 7, 3) := by decide +kernel
theorem dX7_light_20 : decode cX7_light 20 = .ok (.iconst 1, 1) := by decide +kernel
theorem dX7_light_21 : decode cX7_light 21 = .ok (.goto 4, 3) := by decide +kernel
theorem dX7_light_24 : decode cX7_light 24 = .ok (.iconst 0, 1) := by decide +kernel
theorem dX7_light_25 : decode cX7_light 25 = .ok (.istore 8, 2) := by decide +kernel
theorem dX7_light_27 : decode cX7_light 27 = .ok (.iconst 1, 1) := by decide +kernel
theorem dX7_light_28 : decode cX7_light 28 = .ok (.istore 9, 2) := by decide +kernel
theorem dX7_light_30 : decode cX7_light 30 = .ok (.iload 9, 2) := by decide +kernel
theorem dX7_light_32 : decode cX7_light 32 = .ok (.iload_n 3, 1) := by decide +kernel
theorem dX7_light_33 : decode cX7_light 33 = .ok (.if_icmp .ge 54, 3) := by decide +kernel
theorem dX7_light_36 : decode cX7_light 36 = .ok (.aload_n 0, 1) := by decide +kernel
theorem dX7_light_37 : decode cX7_light 37 = .ok (.getfield 58, 3) := by decide +kernel
theorem dX7_light_40 : decode cX7_light 40 = .ok (.iload 9, 2) := by decide +kernel
theorem dX7_light_42 : decode cX7_light 42 = .ok (.invokestatic 179, 3) := by decide +kernel
theorem dX7_light_45 : decode cX7_light 45 = .ok (.laload, 1) := by decide +kernel
theorem dX7_light_46 : decode cX7_light 46 = .ok (.lstore 10, 2) := by decide +kernel
theorem dX7_light_48 : decode cX7_light 48 = .ok (.lload 4, 2) := by decide +kernel
theorem dX7_light_50 : decode cX7_light 50 = .ok (.lload 10, 2) := by decide +kernel
theorem dX7_light_52 : decode cX7_light 52 = .ok (.lxor, 1) := by decide +kernel
theorem dX7_light_53 : decode cX7_light 53 = .ok (.lstore 4, 2) := by decide +kernel
theorem dX7_light_55 : decode cX7_light 55 = .ok (.lload 6, 2) := by decide +kernel
theorem dX7_light_57 : decode cX7_light 57 = .ok (.aload_n 0, 1) := by decide +kernel
theorem dX7_light_58 : decode cX7_light 58 = .ok (.getfield 10, 3) := by decide +kernel
theorem dX7_light_61 : decode cX7_light 61 = .ok (.lload 10, 2) := by decide +kernel
theorem dX7_light_63 : decode cX7_light 63 = .ok (.lload 4, 2) := by decide +kernel
theorem dX7_light_65 : decode cX7_light 65 = .ok (.invokevirtual 185, 3) := by decide +kernel
theorem dX7_light_68 : decode cX7_light 68 = .ok (.ladd, 1) := by decide +kernel
theorem dX7_light_69 : decode cX7_light 69 = .ok (.lstore 6, 2) := by decide +kernel
theorem dX7_light_71 : decode cX7_light 71 = .ok (.lload 6, 2) := by decide +kernel
theorem dX7_light_73 : decode cX7_light 73 = .ok (.lload_n 1, 1) := by decide +kernel
theorem dX7_light_74 : decode cX7_light 74 = .ok (.lcmp, 1) := by decide +kernel
theorem dX7_light_75 : decode cX7_light 75 = .ok (.ifCond .gt 6, 3) := by decide +kernel
theorem dX7_light_78 : decode cX7_light 78 = .ok (.iinc 8 1, 3) := by decide +kernel
theorem dX7_light_81 : decode cX7_light 81 = .ok (.iinc 9 1, 3) := by decide +kernel
theorem dX7_light_84 : decode cX7_light 84 = .ok (.goto (-54), 3) := by decide +kernel
theorem dX7_light_87 : decode cX7_light 87 = .ok (.iload 8, 2) := by decide +kernel
theorem dX7_light_89 : decode cX7_light 89 = .ok (.ireturn, 1) := by decide +kernel
set_option maxRecDepth 20000 in
theorem ggX7_add_X7_checkListed : GoodIn wsX7_add wsX7_checkListed := goodIn_ca (goodIn_r _ [8, 9, 10] (by decide +kernel) (by decide +kernel)) (goodIn_sub (fun _ h => List.mem_cons_of_mem _ (List.mem_append_right _ h)) (by decide +kernel))
set_option maxRecDepth 20000 in
theorem gX7_add_X7_checkListed : GoodIn wsX7_add (wsV RX7 189 RX7 yX7_checkListed wsX7_checkListed) := goodIn_app (goodIn_of _ (by decide +kernel)) ggX7_add_X7_checkListed
set_option maxRecDepth 20000 in
theorem ggX7_add_X5_append : GoodIn wsX7_add wsX5_append := goodIn_r _ [15, 16, 17, 18, 19, 20, 21, 14, 22, 23, 7, 24, 25, 26, 27, 28, 29, 30, 31, 32, 33, 42, 43, 44] (by decide +kernel) (by decide +kernel)
set_option maxRecDepth 20000 in
theorem gX7_add_X5_append : GoodIn wsX7_add (wsV RX7 197 RX5 yX5_append wsX5_append) := goodIn_app (goodIn_of _ (by decide +kernel)) ggX7_add_X5_append
theorem dX7_add_0 : decode cX7_add 0 = .ok (.aload_n 0, 1) := by decide +kernel
theorem dX7_add_1 : decode cX7_add 1 = .ok (.lload_n 1, 1) := by decide +kernel
theorem dX7_add_2 : decode cX7_add 2 = .ok (.invokevirtual 189, 3) := by decide +kernel
theorem dX7_add_5 : decode cX7_add 5 = .ok (.aload_n 0, 1) := by decide +kernel
theorem dX7_add_6 : decode cX7_add 6 = .ok (.getfield 19, 3) := by decide +kernel
theorem dX7_add_9 : decode cX7_add 9 = .ok (.getfield 192, 3) := by decide +kernel
theorem dX7_add_12 : decode cX7_add 12 = .ok (.bipush 64, 2) := by decide +kernel
theorem dX7_add_14 : decode cX7_add 14 = .ok (.if_icmp .lt 13, 3) := by decide +kernel
theorem dX7_add_17 : decode cX7_add 17 = .ok (.new 86, 3) := by decide +kernel
theorem dX7_add_20 : decode cX7_add 20 = .ok (.dup, 1) := by decide +kernel
theorem dX7_add_21 : decode cX7_add 21 = .ok (.ldc 195, 2) := by decide +kernel
theorem dX7_add_23 : decode cX7_add 23 = .ok (.invokespecial 90, 3) := by decide +kernel
theorem dX7_add_26 : decode cX7_add 26 = .ok (.athrow, 1) := by decide +kernel
theorem dX7_add_27 : decode cX7_add 27 = .ok (.aload_n 0, 1) := by decide +kernel
theorem dX7_add_28 : decode cX7_add 28 = .ok (.getfield 19, 3) := by decide +kernel
theorem dX7_add_31 : decode cX7_add 31 = .ok (.lload_n 1, 1) := by decide +kernel
theorem dX7_add_32 : decode cX7_add 32 = .ok (.invokevirtual 197, 3) := by decide +kernel
theorem dX7_add_35 : decode cX7_add 35 = .ok (.ireturn, 1) := by decide +kernel
set_option maxRecDepth 20000 in
theorem ggX7_clear_X5_empty : GoodIn wsX7_clear wsX5_empty := goodIn_r _ [6, 7, 8, 9, 10, 11, 12, 13, 22, 23, 24] (by decide +kernel) (by decide +kernel)
set_option maxRecDepth 20000 in
theorem gX7_clear_X5_empty : GoodIn wsX7_clear (wsV RX7 199 RX5 yX5_empty wsX5_empty) := goodIn_app (goodIn_of _ (by decide +kernel)) ggX7_clear_X5_empty
theorem dX7_clear_0 : decode cX7_clear 0 = .ok (.aload_n 0, 1) := by decide +kernel
theorem dX7_clear_1 : decode cX7_clear 1 = .ok (.getfield 19, 3) := by decide +kernel
theorem dX7_clear_4 : decode cX7_clear 4 = .ok (.getfield 192, 3) := by decide +kernel
theorem dX7_clear_7 : decode cX7_clear 7 = .ok (.istore_n 1, 1) := by decide +kernel
theorem dX7_clear_8 : decode cX7_clear 8 = .ok (.aload_n 0, 1) := by decide +kernel
theorem dX7_clear_9 : decode cX7_clear 9 = .ok (.getfield 19, 3) := by decide +kernel
theorem dX7_clear_12 : decode cX7_clear 12 = .ok (.invokevirtual 199, 3) := by decide +kernel
theorem dX7_clear_15 : decode cX7_clear 15 = .ok (.iload_n 1, 1) := by decide +kernel
theorem dX7_clear_16 : decode cX7_clear 16 = .ok (.ireturn, 1) := by decide +kernel
set_option maxRecDepth 20000 in
theorem ggX7_spans_X7_checkListed : GoodIn wsX7_spans wsX7_checkListed := goodIn_ca (goodIn_r _ [6, 7, 8] (by decide +kernel) (by decide +kernel)) (goodIn_sub (fun _ h => List.mem_cons_of_mem _ (List.mem_append_right _ h)) (by decide +kernel))
set_option maxRecDepth 20000 in
theorem gX7_spans_X7_checkListed : GoodIn wsX7_spans (wsV RX7 189 RX7 yX7_checkListed wsX7_checkListed) := goodIn_app (goodIn_of _ (by decide +kernel)) ggX7_spans_X7_checkListed
set_option maxRecDepth 20000 in
theorem ggX7_spans_X5_rest : GoodIn wsX7_spans wsX5_rest := goodIn_r _ [13, 14, 15, 5, 16, 25, 26, 27] (by decide +kernel) (by decide +kernel)
set_option maxRecDepth 20000 in
theorem gX7_spans_X5_rest : GoodIn wsX7_spans (wsV RX7 202 RX5 yX5_rest wsX5_rest) := goodIn_app (goodIn_of _ (by decide +kernel)) ggX7_spans_X5_rest
theorem dX7_spans_0 : decode cX7_spans 0 = .ok (.aload_n 0, 1) := by decide +kernel
theorem dX7_spans_1 : decode cX7_spans 1 = .ok (.lload_n 1, 1) := by decide +kernel
theorem dX7_spans_2 : decode cX7_spans 2 = .ok (.invokevirtual 189, 3) := by decide +kernel
theorem dX7_spans_5 : decode cX7_spans 5 = .ok (.aload_n 0, 1) := by decide +kernel
theorem dX7_spans_6 : decode cX7_spans 6 = .ok (.getfield 19, 3) := by decide +kernel
theorem dX7_spans_9 : decode cX7_spans 9 = .ok (.lload_n 1, 1) := by decide +kernel
theorem dX7_spans_10 : decode cX7_spans 10 = .ok (.invokevirtual 202, 3) := by decide +kernel
theorem dX7_spans_13 : decode cX7_spans 13 = .ok (.lconst 0, 1) := by decide +kernel
theorem dX7_spans_14 : decode cX7_spans 14 = .ok (.lcmp, 1) := by decide +kernel
theorem dX7_spans_15 : decode cX7_spans 15 = .ok (.ifCond .ne 7, 3) := by decide +kernel
theorem dX7_spans_18 : decode cX7_spans 18 = .ok (.iconst 1, 1) := by decide +kernel
theorem dX7_spans_19 : decode cX7_spans 19 = .ok (.goto 4, 3) := by decide +kernel
theorem dX7_spans_22 : decode cX7_spans 22 = .ok (.iconst 0, 1) := by decide +kernel
theorem dX7_spans_23 : decode cX7_spans 23 = .ok (.ireturn, 1) := by decide +kernel
set_option maxRecDepth 20000 in
theorem ggX7_look_X7_countGroups : GoodIn wsX7_look wsX7_countGroups := goodIn_r _ [9, 10, 11, 12, 13, 8, 14, 3, 15, 16, 17, 18, 19, 20, 21, 22, 23, 24, 25, 26, 27, 28, 29, 30, 31, 32, 33, 34, 35, 36, 37, 38, 39, 40, 41, 42, 75, 76, 77, 78, 79, 80, 81, 82, 91, 92, 93, 94, 83, 84, 85, 86, 87] (by decide +kernel) (by decide +kernel)
set_option maxRecDepth 20000 in
theorem gX7_look_X7_countGroups : GoodIn wsX7_look (wsV RX7 208 RX7 yX7_countGroups wsX7_countGroups) := goodIn_app (goodIn_of _ (by decide +kernel)) ggX7_look_X7_countGroups
set_option maxRecDepth 20000 in
theorem ggX7_look_X7_joinWhole : GoodIn wsX7_look wsX7_joinWhole := goodIn_r _ [14, 3, 15, 16, 17, 8, 18, 10, 19, 20, 21, 22, 23, 24, 25, 26, 27, 28, 29, 30, 31, 32, 33, 34, 35, 36, 37, 38, 39, 40, 41, 42, 75, 76, 77, 78, 79, 80, 81, 82, 83, 84, 85, 86, 87, 91, 92, 93, 94] (by decide +kernel) (by decide +kernel)
set_option maxRecDepth 20000 in
theorem gX7_look_X7_joinWhole : GoodIn wsX7_look (wsV RX7 91 RX7 yX7_joinWhole wsX7_joinWhole) := goodIn_app (goodIn_of _ (by decide +kernel)) ggX7_look_X7_joinWhole
set_option maxRecDepth 20000 in
theorem ggX7_look_X7_countEdgesInNoCycle : GoodIn wsX7_look wsX7_countEdgesInNoCycle := goodIn_r _ [46, 47, 3, 48, 49, 50, 8, 51, 10, 19, 20, 21, 22, 23, 24, 25, 26, 27, 31, 32, 33, 34, 35, 36, 37, 38, 39, 40, 41, 42, 52, 53, 54, 55, 56, 57, 58, 75, 76, 77, 78, 79, 80, 81, 82, 83, 84, 85, 86, 87, 91, 92, 93, 94] (by decide +kernel) (by decide +kernel)
set_option maxRecDepth 20000 in
theorem gX7_look_X7_countEdgesInNoCycle : GoodIn wsX7_look (wsV RX7 211 RX7 yX7_countEdgesInNoCycle wsX7_countEdgesInNoCycle) := goodIn_app (goodIn_of _ (by decide +kernel)) ggX7_look_X7_countEdgesInNoCycle
set_option maxRecDepth 20000 in
theorem ggX7_look_X7_hasOddCycle : GoodIn wsX7_look wsX7_hasOddCycle := goodIn_r _ [62, 47, 48, 49, 50, 8, 51, 10, 3, 19, 20, 21, 22, 23, 24, 25, 26, 27, 31, 32, 33, 34, 35, 36, 37, 38, 39, 40, 41, 42, 52, 53, 54, 55, 56, 57, 58, 75, 76, 77, 78, 79, 80, 81, 82, 83, 84, 85, 86, 87, 91, 92, 93, 94] (by decide +kernel) (by decide +kernel)
set_option maxRecDepth 20000 in
theorem gX7_look_X7_hasOddCycle : GoodIn wsX7_look (wsV RX7 214 RX7 yX7_hasOddCycle wsX7_hasOddCycle) := goodIn_app (goodIn_of _ (by decide +kernel)) ggX7_look_X7_hasOddCycle
set_option maxRecDepth 20000 in
theorem ggX7_look_X7_countCuttingVertices : GoodIn wsX7_look wsX7_countCuttingVertices := goodIn_r _ [66, 3, 10, 5, 6, 7, 8, 9, 11, 12, 13, 14, 15, 16, 17, 18, 19, 20, 21, 22, 23, 24, 25, 26, 27, 28, 29, 30, 31, 32, 33, 34, 35, 36, 37, 38, 39, 40, 41, 42, 67, 68, 69, 70, 71, 72, 73, 74, 75, 76, 77, 78, 79, 80, 81, 82, 83, 84, 85, 86, 87, 91, 92, 93, 94] (by decide +kernel) (by decide +kernel)
set_option maxRecDepth 20000 in
theorem gX7_look_X7_countCuttingVertices : GoodIn wsX7_look (wsV RX7 221 RX7 yX7_countCuttingVertices wsX7_countCuttingVertices) := goodIn_app (goodIn_of _ (by decide +kernel)) ggX7_look_X7_countCuttingVertices
theorem dX7_look_0 : decode cX7_look 0 = .ok (.iload_n 1, 1) := by decide +kernel
theorem dX7_look_1 : decode cX7_look 1 = .ok (.tableswitch 116 0 8 #[51, 59, 67, 72, 77, 82, 95, 103, 111], 51) := by decide +kernel
theorem dX7_look_52 : decode cX7_look 52 = .ok (.aload_n 0, 1) := by decide +kernel
theorem dX7_look_53 : decode cX7_look 53 = .ok (.getfield 10, 3) := by decide +kernel
theorem dX7_look_56 : decode cX7_look 56 = .ok (.getfield 205, 3) := by decide +kernel
theorem dX7_look_59 : decode cX7_look 59 = .ok (.ireturn, 1) := by decide +kernel
theorem dX7_look_60 : decode cX7_look 60 = .ok (.aload_n 0, 1) := by decide +kernel
theorem dX7_look_61 : decode cX7_look 61 = .ok (.getfield 10, 3) := by decide +kernel
theorem dX7_look_64 : decode cX7_look 64 = .ok (.getfield 69, 3) := by decide +kernel
theorem dX7_look_67 : decode cX7_look 67 = .ok (.ireturn, 1) := by decide +kernel
theorem dX7_look_68 : decode cX7_look 68 = .ok (.aload_n 0, 1) := by decide +kernel
theorem dX7_look_69 : decode cX7_look 69 = .ok (.invokevirtual 208, 3) := by decide +kernel
theorem dX7_look_72 : decode cX7_look 72 = .ok (.ireturn, 1) := by decide +kernel
theorem dX7_look_73 : decode cX7_look 73 = .ok (.aload_n 0, 1) := by decide +kernel
theorem dX7_look_74 : decode cX7_look 74 = .ok (.invokevirtual 91, 3) := by decide +kernel
theorem dX7_look_77 : decode cX7_look 77 = .ok (.ireturn, 1) := by decide +kernel
theorem dX7_look_78 : decode cX7_look 78 = .ok (.aload_n 0, 1) := by decide +kernel
theorem dX7_look_79 : decode cX7_look 79 = .ok (.invokevirtual 211, 3) := by decide +kernel
theorem dX7_look_82 : decode cX7_look 82 = .ok (.ireturn, 1) := by decide +kernel
theorem dX7_look_83 : decode cX7_look 83 = .ok (.aload_n 0, 1) := by decide +kernel
theorem dX7_look_84 : decode cX7_look 84 = .ok (.invokevirtual 214, 3) := by decide +kernel
theorem dX7_look_87 : decode cX7_look 87 = .ok (.ifCond .eq 7, 3) := by decide +kernel
theorem dX7_look_90 : decode cX7_look 90 = .ok (.iconst 0, 1) := by decide +kernel
theorem dX7_look_91 : decode cX7_look 91 = .ok (.goto 4, 3) := by decide +kernel
theorem dX7_look_94 : decode cX7_look 94 = .ok (.iconst 1, 1) := by decide +kernel
theorem dX7_look_95 : decode cX7_look 95 = .ok (.ireturn, 1) := by decide +kernel
theorem dX7_look_96 : decode cX7_look 96 = .ok (.aload_n 0, 1) := by decide +kernel
theorem dX7_look_97 : decode cX7_look 97 = .ok (.getfield 19, 3) := by decide +kernel
theorem dX7_look_100 : decode cX7_look 100 = .ok (.getfield 192, 3) := by decide +kernel
theorem dX7_look_103 : decode cX7_look 103 = .ok (.ireturn, 1) := by decide +kernel
theorem dX7_look_104 : decode cX7_look 104 = .ok (.aload_n 0, 1) := by decide +kernel
theorem dX7_look_105 : decode cX7_look 105 = .ok (.getfield 19, 3) := by decide +kernel
theorem dX7_look_108 : decode cX7_look 108 = .ok (.getfield 218, 3) := by decide +kernel
theorem dX7_look_111 : decode cX7_look 111 = .ok (.ireturn, 1) := by decide +kernel
theorem dX7_look_112 : decode cX7_look 112 = .ok (.aload_n 0, 1) := by decide +kernel
theorem dX7_look_113 : decode cX7_look 113 = .ok (.invokevirtual 221, 3) := by decide +kernel
theorem dX7_look_116 : decode cX7_look 116 = .ok (.ireturn, 1) := by decide +kernel
theorem dX7_look_117 : decode cX7_look 117 = .ok (.new 62, 3) := by decide +kernel
theorem dX7_look_120 : decode cX7_look 120 = .ok (.dup, 1) := by decide +kernel
theorem dX7_look_121 : decode cX7_look 121 = .ok (.ldc 224, 2) := by decide +kernel
theorem dX7_look_123 : decode cX7_look 123 = .ok (.invokespecial 66, 3) := by decide +kernel
theorem dX7_look_126 : decode cX7_look 126 = .ok (.athrow, 1) := by decide +kernel
theorem dX7_checkEdges_0 : decode cX7_checkEdges 0 = .ok (.lload_n 1, 1) := by decide +kernel
theorem dX7_checkEdges_1 : decode cX7_checkEdges 1 = .ok (.aload_n 0, 1) := by decide +kernel
theorem dX7_checkEdges_2 : decode cX7_checkEdges 2 = .ok (.getfield 10, 3) := by decide +kernel
theorem dX7_checkEdges_5 : decode cX7_checkEdges 5 = .ok (.getfield 69, 3) := by decide +kernel
theorem dX7_checkEdges_8 : decode cX7_checkEdges 8 = .ok (.lushr, 1) := by decide +kernel
theorem dX7_checkEdges_9 : decode cX7_checkEdges 9 = .ok (.lconst 0, 1) := by decide +kernel
theorem dX7_checkEdges_10 : decode cX7_checkEdges 10 = .ok (.lcmp, 1) := by decide +kernel
theorem dX7_checkEdges_11 : decode cX7_checkEdges 11 = .ok (.ifCond .eq 13, 3) := by decide +kernel
theorem dX7_checkEdges_14 : decode cX7_checkEdges 14 = .ok (.new 62, 3) := by decide +kernel
theorem dX7_checkEdges_17 : decode cX7_checkEdges 17 = .ok (.dup, 1) := by decide +kernel
theorem dX7_checkEdges_18 : decode cX7_checkEdges 18 = .ok (.ldc 226, 2) := by decide +kernel
theorem dX7_checkEdges_20 : decode cX7_checkEdges 20 = .ok (.invokespecial 66, 3) := by decide +kernel
theorem dX7_checkEdges_23 : decode cX7_checkEdges 23 = .ok (.athrow, 1) := by decide +kernel
theorem dX7_checkEdges_24 : decode cX7_checkEdges 24 = .ok (.return_, 1) := by decide +kernel
theorem dX7_checkListed_0 : decode cX7_checkListed 0 = .ok (.lload_n 1, 1) := by decide +kernel
theorem dX7_checkListed_1 : decode cX7_checkListed 1 = .ok (.bipush 40, 2) := by decide +kernel
theorem dX7_checkListed_3 : decode cX7_checkListed 3 = .ok (.lushr, 1) := by decide +kernel
theorem dX7_checkListed_4 : decode cX7_checkListed 4 = .ok (.lconst 0, 1) := by decide +kernel
theorem dX7_checkListed_5 : decode cX7_checkListed 5 = .ok (.lcmp, 1) := by decide +kernel
theorem dX7_checkListed_6 : decode cX7_checkListed 6 = .ok (.ifCond .eq 13, 3) := by decide +kernel
theorem dX7_checkListed_9 : decode cX7_checkListed 9 = .ok (.new 62, 3) := by decide +kernel
theorem dX7_checkListed_12 : decode cX7_checkListed 12 = .ok (.dup, 1) := by decide +kernel
theorem dX7_checkListed_13 : decode cX7_checkListed 13 = .ok (.ldc 228, 2) := by decide +kernel
theorem dX7_checkListed_15 : decode cX7_checkListed 15 = .ok (.invokespecial 66, 3) := by decide +kernel
theorem dX7_checkListed_18 : decode cX7_checkListed 18 = .ok (.athrow, 1) := by decide +kernel
theorem dX7_checkListed_19 : decode cX7_checkListed 19 = .ok (.return_, 1) := by decide +kernel
theorem dX7_has_0 : decode cX7_has 0 = .ok (.lload_n 0, 1) := by decide +kernel
theorem dX7_has_1 : decode cX7_has 1 = .ok (.iload_n 2, 1) := by decide +kernel
theorem dX7_has_2 : decode cX7_has 2 = .ok (.lushr, 1) := by decide +kernel
theorem dX7_has_3 : decode cX7_has 3 = .ok (.lconst 1, 1) := by decide +kernel
theorem dX7_has_4 : decode cX7_has 4 = .ok (.land, 1) := by decide +kernel
theorem dX7_has_5 : decode cX7_has 5 = .ok (.lconst 0, 1) := by decide +kernel
theorem dX7_has_6 : decode cX7_has 6 = .ok (.lcmp, 1) := by decide +kernel
theorem dX7_has_7 : decode cX7_has 7 = .ok (.ifCond .eq 7, 3) := by decide +kernel
theorem dX7_has_10 : decode cX7_has 10 = .ok (.iconst 1, 1) := by decide +kernel
theorem dX7_has_11 : decode cX7_has 11 = .ok (.goto 4, 3) := by decide +kernel
theorem dX7_has_14 : decode cX7_has 14 = .ok (.iconst 0, 1) := by decide +kernel
theorem dX7_has_15 : decode cX7_has 15 = .ok (.ireturn, 1) := by decide +kernel
set_option maxRecDepth 20000 in
theorem ggX7_joinSet_X3_part : GoodIn wsX7_joinSet wsX3_part := goodIn_r _ [7, 8, 9, 10, 11, 41, 42, 43, 44] (by decide +kernel) (by decide +kernel)
set_option maxRecDepth 20000 in
theorem gX7_joinSet_X3_part : GoodIn wsX7_joinSet (wsV RX7 230 RX3 yX3_part wsX3_part) := goodIn_app (goodIn_of _ (by decide +kernel)) ggX7_joinSet_X3_part
set_option maxRecDepth 20000 in
theorem ggX7_joinSet_X7_has : GoodIn wsX7_joinSet wsX7_has := goodIn_r _ [15] (by decide +kernel) (by decide +kernel)
set_option maxRecDepth 20000 in
theorem gX7_joinSet_X7_has : GoodIn wsX7_joinSet (va_wsS RX7 233 yX7_has wsX7_has) := goodIn_app (goodIn_of _ (by decide +kernel)) ggX7_joinSet_X7_has
set_option maxRecDepth 20000 in
theorem ggX7_joinSet_X3_join : GoodIn wsX7_joinSet wsX3_join := goodIn_r _ [19, 11, 10, 20, 21, 22, 6, 23, 24, 25, 26, 27, 8, 9, 36, 37, 38, 39, 40, 41, 42, 43, 44] (by decide +kernel) (by decide +kernel)
set_option maxRecDepth 20000 in
theorem gX7_joinSet_X3_join : GoodIn wsX7_joinSet (wsV RX7 237 RX3 yX3_join wsX3_join) := goodIn_app (goodIn_of _ (by decide +kernel)) ggX7_joinSet_X3_join
theorem dX7_joinSet_0 : decode cX7_joinSet 0 = .ok (.aload_n 0, 1) := by decide +kernel
theorem dX7_joinSet_1 : decode cX7_joinSet 1 = .ok (.getfield 26, 3) := by decide +kernel
theorem dX7_joinSet_4 : decode cX7_joinSet 4 = .ok (.aload_n 0, 1) := by decide +kernel
theorem dX7_joinSet_5 : decode cX7_joinSet 5 = .ok (.getfield 10, 3) := by decide +kernel
theorem dX7_joinSet_8 : decode cX7_joinSet 8 = .ok (.getfield 205, 3) := by decide +kernel
theorem dX7_joinSet_11 : decode cX7_joinSet 11 = .ok (.invokevirtual 230, 3) := by decide +kernel
theorem dX7_joinSet_14 : decode cX7_joinSet 14 = .ok (.iconst 0, 1) := by decide +kernel
theorem dX7_joinSet_15 : decode cX7_joinSet 15 = .ok (.istore_n 3, 1) := by decide +kernel
theorem dX7_joinSet_16 : decode cX7_joinSet 16 = .ok (.iconst 0, 1) := by decide +kernel
theorem dX7_joinSet_17 : decode cX7_joinSet 17 = .ok (.istore 4, 2) := by decide +kernel
theorem dX7_joinSet_19 : decode cX7_joinSet 19 = .ok (.iload 4, 2) := by decide +kernel
theorem dX7_joinSet_21 : decode cX7_joinSet 21 = .ok (.aload_n 0, 1) := by decide +kernel
theorem dX7_joinSet_22 : decode cX7_joinSet 22 = .ok (.getfield 10, 3) := by decide +kernel
theorem dX7_joinSet_25 : decode cX7_joinSet 25 = .ok (.getfield 69, 3) := by decide +kernel
theorem dX7_joinSet_28 : decode cX7_joinSet 28 = .ok (.if_icmp .ge 39, 3) := by decide +kernel
theorem dX7_joinSet_31 : decode cX7_joinSet 31 = .ok (.lload_n 1, 1) := by decide +kernel
theorem dX7_joinSet_32 : decode cX7_joinSet 32 = .ok (.iload 4, 2) := by decide +kernel
theorem dX7_joinSet_34 : decode cX7_joinSet 34 = .ok (.invokestatic 233, 3) := by decide +kernel
theorem dX7_joinSet_37 : decode cX7_joinSet 37 = .ok (.ifCond .eq 24, 3) := by decide +kernel
theorem dX7_joinSet_40 : decode cX7_joinSet 40 = .ok (.aload_n 0, 1) := by decide +kernel
theorem dX7_joinSet_41 : decode cX7_joinSet 41 = .ok (.getfield 26, 3) := by decide +kernel
theorem dX7_joinSet_44 : decode cX7_joinSet 44 = .ok (.aload_n 0, 1) := by decide +kernel
theorem dX7_joinSet_45 : decode cX7_joinSet 45 = .ok (.getfield 10, 3) := by decide +kernel
theorem dX7_joinSet_48 : decode cX7_joinSet 48 = .ok (.iload 4, 2) := by decide +kernel
theorem dX7_joinSet_50 : decode cX7_joinSet 50 = .ok (.invokevirtual 237, 3) := by decide +kernel
theorem dX7_joinSet_53 : decode cX7_joinSet 53 = .ok (.lconst 0, 1) := by decide +kernel
theorem dX7_joinSet_54 : decode cX7_joinSet 54 = .ok (.lcmp, 1) := by decide +kernel
theorem dX7_joinSet_55 : decode cX7_joinSet 55 = .ok (.ifCond .eq 6, 3) := by decide +kernel
theorem dX7_joinSet_58 : decode cX7_joinSet 58 = .ok (.iinc 3 1, 3) := by decide +kernel
theorem dX7_joinSet_61 : decode cX7_joinSet 61 = .ok (.iinc 4 1, 3) := by decide +kernel
theorem dX7_joinSet_64 : decode cX7_joinSet 64 = .ok (.goto (-45), 3) := by decide +kernel
theorem dX7_joinSet_67 : decode cX7_joinSet 67 = .ok (.iload_n 3, 1) := by decide +kernel
theorem dX7_joinSet_68 : decode cX7_joinSet 68 = .ok (.ireturn, 1) := by decide +kernel
set_option maxRecDepth 20000 in
theorem ggX7_joinWhole_X7_joinSet : GoodIn wsX7_joinWhole wsX7_joinSet := goodIn_r _ [6, 7, 1, 8, 9, 10, 11, 12, 13, 14, 15, 16, 17, 18, 5, 19, 20, 21, 22, 23, 24, 25, 26, 27, 28, 29, 30, 31, 32, 33, 34, 35, 36, 37, 38, 39, 40, 41, 42, 43, 44, 45, 46, 47, 48] (by decide +kernel) (by decide +kernel)
set_option maxRecDepth 20000 in
theorem gX7_joinWhole_X7_joinSet : GoodIn wsX7_joinWhole (wsV RX7 114 RX7 yX7_joinSet wsX7_joinSet) := goodIn_app (goodIn_of _ (by decide +kernel)) ggX7_joinWhole_X7_joinSet
theorem dX7_joinWhole_0 : decode cX7_joinWhole 0 = .ok (.aload_n 0, 1) := by decide +kernel
theorem dX7_joinWhole_1 : decode cX7_joinWhole 1 = .ok (.lconst 1, 1) := by decide +kernel
theorem dX7_joinWhole_2 : decode cX7_joinWhole 2 = .ok (.aload_n 0, 1) := by decide +kernel
theorem dX7_joinWhole_3 : decode cX7_joinWhole 3 = .ok (.getfield 10, 3) := by decide +kernel
theorem dX7_joinWhole_6 : decode cX7_joinWhole 6 = .ok (.getfield 69, 3) := by decide +kernel
theorem dX7_joinWhole_9 : decode cX7_joinWhole 9 = .ok (.lshl, 1) := by decide +kernel
theorem dX7_joinWhole_10 : decode cX7_joinWhole 10 = .ok (.lconst 1, 1) := by decide +kernel
theorem dX7_joinWhole_11 : decode cX7_joinWhole 11 = .ok (.lsub, 1) := by decide +kernel
theorem dX7_joinWhole_12 : decode cX7_joinWhole 12 = .ok (.invokevirtual 114, 3) := by decide +kernel
theorem dX7_joinWhole_15 : decode cX7_joinWhole 15 = .ok (.ireturn, 1) := by decide +kernel
set_option maxRecDepth 20000 in
theorem ggX7_fillRings_X3_part : GoodIn wsX7_fillRings wsX3_part := goodIn_r _ [8, 9, 10, 11, 12, 38, 39, 40, 41] (by decide +kernel) (by decide +kernel)
set_option maxRecDepth 20000 in
theorem gX7_fillRings_X3_part : GoodIn wsX7_fillRings (wsV RX7 230 RX3 yX3_part wsX3_part) := goodIn_app (goodIn_of _ (by decide +kernel)) ggX7_fillRings_X3_part
set_option maxRecDepth 20000 in
theorem ggX7_fillRings_X3_join : GoodIn wsX7_fillRings wsX3_join := goodIn_r _ [16, 12, 11, 17, 18, 19, 7, 20, 21, 22, 23, 24, 9, 10, 33, 34, 35, 36, 37, 38, 39, 40, 41] (by decide +kernel) (by decide +kernel)
set_option maxRecDepth 20000 in
theorem gX7_fillRings_X3_join : GoodIn wsX7_fillRings (wsV RX7 237 RX3 yX3_join wsX3_join) := goodIn_app (goodIn_of _ (by decide +kernel)) ggX7_fillRings_X3_join
theorem dX7_fillRings_0 : decode cX7_fillRings 0 = .ok (.aload_n 0, 1) := by decide +kernel
theorem dX7_fillRings_1 : decode cX7_fillRings 1 = .ok (.getfield 26, 3) := by decide +kernel
theorem dX7_fillRings_4 : decode cX7_fillRings 4 = .ok (.aload_n 0, 1) := by decide +kernel
theorem dX7_fillRings_5 : decode cX7_fillRings 5 = .ok (.getfield 10, 3) := by decide +kernel
theorem dX7_fillRings_8 : decode cX7_fillRings 8 = .ok (.getfield 205, 3) := by decide +kernel
theorem dX7_fillRings_11 : decode cX7_fillRings 11 = .ok (.invokevirtual 230, 3) := by decide +kernel
theorem dX7_fillRings_14 : decode cX7_fillRings 14 = .ok (.iconst 0, 1) := by decide +kernel
theorem dX7_fillRings_15 : decode cX7_fillRings 15 = .ok (.istore_n 1, 1) := by decide +kernel
theorem dX7_fillRings_16 : decode cX7_fillRings 16 = .ok (.iconst 0, 1) := by decide +kernel
theorem dX7_fillRings_17 : decode cX7_fillRings 17 = .ok (.istore_n 2, 1) := by decide +kernel
theorem dX7_fillRings_18 : decode cX7_fillRings 18 = .ok (.iload_n 2, 1) := by decide +kernel
theorem dX7_fillRings_19 : decode cX7_fillRings 19 = .ok (.aload_n 0, 1) := by decide +kernel
theorem dX7_fillRings_20 : decode cX7_fillRings 20 = .ok (.getfield 10, 3) := by decide +kernel
theorem dX7_fillRings_23 : decode cX7_fillRings 23 = .ok (.getfield 69, 3) := by decide +kernel
theorem dX7_fillRings_26 : decode cX7_fillRings 26 = .ok (.if_icmp .ge 44, 3) := by decide +kernel
theorem dX7_fillRings_29 : decode cX7_fillRings 29 = .ok (.aload_n 0, 1) := by decide +kernel
theorem dX7_fillRings_30 : decode cX7_fillRings 30 = .ok (.getfield 26, 3) := by decide +kernel
theorem dX7_fillRings_33 : decode cX7_fillRings 33 = .ok (.aload_n 0, 1) := by decide +kernel
theorem dX7_fillRings_34 : decode cX7_fillRings 34 = .ok (.getfield 10, 3) := by decide +kernel
theorem dX7_fillRings_37 : decode cX7_fillRings 37 = .ok (.iload_n 2, 1) := by decide +kernel
theorem dX7_fillRings_38 : decode cX7_fillRings 38 = .ok (.invokevirtual 237, 3) := by decide +kernel
theorem dX7_fillRings_41 : decode cX7_fillRings 41 = .ok (.lstore_n 3, 1) := by decide +kernel
theorem dX7_fillRings_42 : decode cX7_fillRings 42 = .ok (.lload_n 3, 1) := by decide +kernel
theorem dX7_fillRings_43 : decode cX7_fillRings 43 = .ok (.lconst 0, 1) := by decide +kernel
theorem dX7_fillRings_44 : decode cX7_fillRings 44 = .ok (.lcmp, 1) := by decide +kernel
theorem dX7_fillRings_45 : decode cX7_fillRings 45 = .ok (.ifCond .eq 19, 3) := by decide +kernel
theorem dX7_fillRings_48 : decode cX7_fillRings 48 = .ok (.iload_n 1, 1) := by decide +kernel
theorem dX7_fillRings_49 : decode cX7_fillRings 49 = .ok (.bipush 14, 2) := by decide +kernel
theorem dX7_fillRings_51 : decode cX7_fillRings 51 = .ok (.if_icmp .ge 13, 3) := by decide +kernel
theorem dX7_fillRings_54 : decode cX7_fillRings 54 = .ok (.aload_n 0, 1) := by decide +kernel
theorem dX7_fillRings_55 : decode cX7_fillRings 55 = .ok (.getfield 58, 3) := by decide +kernel
theorem dX7_fillRings_58 : decode cX7_fillRings 58 = .ok (.iload_n 1, 1) := by decide +kernel
theorem dX7_fillRings_59 : decode cX7_fillRings 59 = .ok (.lload_n 3, 1) := by decide +kernel
theorem dX7_fillRings_60 : decode cX7_fillRings 60 = .ok (.lastore, 1) := by decide +kernel
theorem dX7_fillRings_61 : decode cX7_fillRings 61 = .ok (.iinc 1 1, 3) := by decide +kernel
theorem dX7_fillRings_64 : decode cX7_fillRings 64 = .ok (.iinc 2 1, 3) := by decide +kernel
theorem dX7_fillRings_67 : decode cX7_fillRings 67 = .ok (.goto (-49), 3) := by decide +kernel
theorem dX7_fillRings_70 : decode cX7_fillRings 70 = .ok (.iload_n 1, 1) := by decide +kernel
theorem dX7_fillRings_71 : decode cX7_fillRings 71 = .ok (.ireturn, 1) := by decide +kernel
set_option maxRecDepth 20000 in
theorem ggX7_weightOfLightestJoins_X7_lightestJoin : GoodIn wsX7_weightOfLightestJoins wsX7_lightestJoin := goodIn_r _ [7, 1, 2, 8, 9, 10, 11, 12, 13, 26, 27, 28, 29, 30, 31, 32, 33, 34, 35, 36, 37, 38, 39, 40, 41, 42] (by decide +kernel) (by decide +kernel)
set_option maxRecDepth 20000 in
theorem gX7_weightOfLightestJoins_X7_lightestJoin : GoodIn wsX7_weightOfLightestJoins (wsV RX7 241 RX7 yX7_lightestJoin wsX7_lightestJoin) := goodIn_app (goodIn_of _ (by decide +kernel)) ggX7_weightOfLightestJoins_X7_lightestJoin
set_option maxRecDepth 20000 in
theorem ggX7_weightOfLightestJoins_X3_join : GoodIn wsX7_weightOfLightestJoins wsX3_join := goodIn_r _ [17, 18, 13, 19, 9, 10, 11, 12, 20, 21, 22, 23, 24, 25, 34, 35, 36, 37, 38, 39, 40, 41, 42] (by decide +kernel) (by decide +kernel)
set_option maxRecDepth 20000 in
theorem gX7_weightOfLightestJoins_X3_join : GoodIn wsX7_weightOfLightestJoins (wsV RX7 237 RX3 yX3_join wsX3_join) := goodIn_app (goodIn_of _ (by decide +kernel)) ggX7_weightOfLightestJoins_X3_join
theorem dX7_weightOfLightestJoins_0 : decode cX7_weightOfLightestJoins 0 = .ok (.lconst 0, 1) := by decide +kernel
theorem dX7_weightOfLightestJoins_1 : decode cX7_weightOfLightestJoins 1 = .ok (.lstore_n 1, 1) := by decide +kernel
theorem dX7_weightOfLightestJoins_2 : decode cX7_weightOfLightestJoins 2 = .ok (.iconst 1, 1) := by decide +kernel
theorem dX7_weightOfLightestJoins_3 : decode cX7_weightOfLightestJoins 3 = .ok (.istore_n 3, 1) := by decide +kernel
theorem dX7_weightOfLightestJoins_4 : decode cX7_weightOfLightestJoins 4 = .ok (.iload_n 3, 1) := by decide +kernel
theorem dX7_weightOfLightestJoins_5 : decode cX7_weightOfLightestJoins 5 = .ok (.aload_n 0, 1) := by decide +kernel
theorem dX7_weightOfLightestJoins_6 : decode cX7_weightOfLightestJoins 6 = .ok (.getfield 10, 3) := by decide +kernel
theorem dX7_weightOfLightestJoins_9 : decode cX7_weightOfLightestJoins 9 = .ok (.getfield 205, 3) := by decide +kernel
theorem dX7_weightOfLightestJoins_12 : decode cX7_weightOfLightestJoins 12 = .ok (.if_icmp .ge 51, 3) := by decide +kernel
theorem dX7_weightOfLightestJoins_15 : decode cX7_weightOfLightestJoins 15 = .ok (.aload_n 0, 1) := by decide +kernel
theorem dX7_weightOfLightestJoins_16 : decode cX7_weightOfLightestJoins 16 = .ok (.invokevirtual 241, 3) := by decide +kernel
theorem dX7_weightOfLightestJoins_19 : decode cX7_weightOfLightestJoins 19 = .ok (.istore 4, 2) := by decide +kernel
theorem dX7_weightOfLightestJoins_21 : decode cX7_weightOfLightestJoins 21 = .ok (.iload 4, 2) := by decide +kernel
theorem dX7_weightOfLightestJoins_23 : decode cX7_weightOfLightestJoins 23 = .ok (.iconst (-1), 1) := by decide +kernel
theorem dX7_weightOfLightestJoins_24 : decode cX7_weightOfLightestJoins 24 = .ok (.if_icmp .ne 5, 3) := by decide +kernel
theorem dX7_weightOfLightestJoins_27 : decode cX7_weightOfLightestJoins 27 = .ok (.lload_n 1, 1) := by decide +kernel
theorem dX7_weightOfLightestJoins_28 : decode cX7_weightOfLightestJoins 28 = .ok (.lreturn, 1) := by decide +kernel
theorem dX7_weightOfLightestJoins_29 : decode cX7_weightOfLightestJoins 29 = .ok (.aload_n 0, 1) := by decide +kernel
theorem dX7_weightOfLightestJoins_30 : decode cX7_weightOfLightestJoins 30 = .ok (.getfield 26, 3) := by decide +kernel
theorem dX7_weightOfLightestJoins_33 : decode cX7_weightOfLightestJoins 33 = .ok (.aload_n 0, 1) := by decide +kernel
theorem dX7_weightOfLightestJoins_34 : decode cX7_weightOfLightestJoins 34 = .ok (.getfield 10, 3) := by decide +kernel
theorem dX7_weightOfLightestJoins_37 : decode cX7_weightOfLightestJoins 37 = .ok (.iload 4, 2) := by decide +kernel
theorem dX7_weightOfLightestJoins_39 : decode cX7_weightOfLightestJoins 39 = .ok (.invokevirtual 237, 3) := by decide +kernel
theorem dX7_weightOfLightestJoins_42 : decode cX7_weightOfLightestJoins 42 = .ok (.pop2, 1) := by decide +kernel
theorem dX7_weightOfLightestJoins_43 : decode cX7_weightOfLightestJoins 43 = .ok (.lload_n 1, 1) := by decide +kernel
theorem dX7_weightOfLightestJoins_44 : decode cX7_weightOfLightestJoins 44 = .ok (.aload_n 0, 1) := by decide +kernel
theorem dX7_weightOfLightestJoins_45 : decode cX7_weightOfLightestJoins 45 = .ok (.getfield 10, 3) := by decide +kernel
theorem dX7_weightOfLightestJoins_48 : decode cX7_weightOfLightestJoins 48 = .ok (.getfield 158, 3) := by decide +kernel
theorem dX7_weightOfLightestJoins_51 : decode cX7_weightOfLightestJoins 51 = .ok (.iload 4, 2) := by decide +kernel
theorem dX7_weightOfLightestJoins_53 : decode cX7_weightOfLightestJoins 53 = .ok (.iaload, 1) := by decide +kernel
theorem dX7_weightOfLightestJoins_54 : decode cX7_weightOfLightestJoins 54 = .ok (.i2l, 1) := by decide +kernel
theorem dX7_weightOfLightestJoins_55 : decode cX7_weightOfLightestJoins 55 = .ok (.ladd, 1) := by decide +kernel
theorem dX7_weightOfLightestJoins_56 : decode cX7_weightOfLightestJoins 56 = .ok (.lstore_n 1, 1) := by decide +kernel
theorem dX7_weightOfLightestJoins_57 : decode cX7_weightOfLightestJoins 57 = .ok (.iinc 3 1, 3) := by decide +kernel
theorem dX7_weightOfLightestJoins_60 : decode cX7_weightOfLightestJoins 60 = .ok (.goto (-56), 3) := by decide +kernel
theorem dX7_weightOfLightestJoins_63 : decode cX7_weightOfLightestJoins 63 = .ok (.lload_n 1, 1) := by decide +kernel
theorem dX7_weightOfLightestJoins_64 : decode cX7_weightOfLightestJoins 64 = .ok (.lreturn, 1) := by decide +kernel
set_option maxRecDepth 20000 in
theorem ggX7_lightestJoin_X3_together : GoodIn wsX7_lightestJoin wsX3_together := goodIn_r _ [7, 8, 22, 23, 24, 25] (by decide +kernel) (by decide +kernel)
set_option maxRecDepth 20000 in
theorem gX7_lightestJoin_X3_together : GoodIn wsX7_lightestJoin (wsV RX7 95 RX3 yX3_together wsX3_together) := goodIn_app (goodIn_of _ (by decide +kernel)) ggX7_lightestJoin_X3_together
theorem dX7_lightestJoin_0 : decode cX7_lightestJoin 0 = .ok (.iconst (-1), 1) := by decide +kernel
theorem dX7_lightestJoin_1 : decode cX7_lightestJoin 1 = .ok (.istore_n 1, 1) := by decide +kernel
theorem dX7_lightestJoin_2 : decode cX7_lightestJoin 2 = .ok (.iconst 0, 1) := by decide +kernel
theorem dX7_lightestJoin_3 : decode cX7_lightestJoin 3 = .ok (.istore_n 2, 1) := by decide +kernel
theorem dX7_lightestJoin_4 : decode cX7_lightestJoin 4 = .ok (.iload_n 2, 1) := by decide +kernel
theorem dX7_lightestJoin_5 : decode cX7_lightestJoin 5 = .ok (.aload_n 0, 1) := by decide +kernel
theorem dX7_lightestJoin_6 : decode cX7_lightestJoin 6 = .ok (.getfield 10, 3) := by decide +kernel
theorem dX7_lightestJoin_9 : decode cX7_lightestJoin 9 = .ok (.getfield 69, 3) := by decide +kernel
theorem dX7_lightestJoin_12 : decode cX7_lightestJoin 12 = .ok (.if_icmp .ge 65, 3) := by decide +kernel
theorem dX7_lightestJoin_15 : decode cX7_lightestJoin 15 = .ok (.aload_n 0, 1) := by decide +kernel
theorem dX7_lightestJoin_16 : decode cX7_lightestJoin 16 = .ok (.getfield 26, 3) := by decide +kernel
theorem dX7_lightestJoin_19 : decode cX7_lightestJoin 19 = .ok (.aload_n 0, 1) := by decide +kernel
theorem dX7_lightestJoin_20 : decode cX7_lightestJoin 20 = .ok (.getfield 10, 3) := by decide +kernel
theorem dX7_lightestJoin_23 : decode cX7_lightestJoin 23 = .ok (.getfield 141, 3) := by decide +kernel
theorem dX7_lightestJoin_26 : decode cX7_lightestJoin 26 = .ok (.iload_n 2, 1) := by decide +kernel
theorem dX7_lightestJoin_27 : decode cX7_lightestJoin 27 = .ok (.iaload, 1) := by decide +kernel
theorem dX7_lightestJoin_28 : decode cX7_lightestJoin 28 = .ok (.aload_n 0, 1) := by decide +kernel
theorem dX7_lightestJoin_29 : decode cX7_lightestJoin 29 = .ok (.getfield 10, 3) := by decide +kernel
theorem dX7_lightestJoin_32 : decode cX7_lightestJoin 32 = .ok (.getfield 149, 3) := by decide +kernel
theorem dX7_lightestJoin_35 : decode cX7_lightestJoin 35 = .ok (.iload_n 2, 1) := by decide +kernel
theorem dX7_lightestJoin_36 : decode cX7_lightestJoin 36 = .ok (.iaload, 1) := by decide +kernel
theorem dX7_lightestJoin_37 : decode cX7_lightestJoin 37 = .ok (.invokevirtual 95, 3) := by decide +kernel
theorem dX7_lightestJoin_40 : decode cX7_lightestJoin 40 = .ok (.ifCond .ne 31, 3) := by decide +kernel
theorem dX7_lightestJoin_43 : decode cX7_lightestJoin 43 = .ok (.iload_n 1, 1) := by decide +kernel
theorem dX7_lightestJoin_44 : decode cX7_lightestJoin 44 = .ok (.iconst (-1), 1) := by decide +kernel
theorem dX7_lightestJoin_45 : decode cX7_lightestJoin 45 = .ok (.if_icmp .eq 24, 3) := by decide +kernel
theorem dX7_lightestJoin_48 : decode cX7_lightestJoin 48 = .ok (.aload_n 0, 1) := by decide +kernel
theorem dX7_lightestJoin_49 : decode cX7_lightestJoin 49 = .ok (.getfield 10, 3) := by decide +kernel
theorem dX7_lightestJoin_52 : decode cX7_lightestJoin 52 = .ok (.getfield 158, 3) := by decide +kernel
theorem dX7_lightestJoin_55 : decode cX7_lightestJoin 55 = .ok (.iload_n 2, 1) := by decide +kernel
theorem dX7_lightestJoin_56 : decode cX7_lightestJoin 56 = .ok (.iaload, 1) := by decide +kernel
theorem dX7_lightestJoin_57 : decode cX7_lightestJoin 57 = .ok (.aload_n 0, 1) := by decide +kernel
theorem dX7_lightestJoin_58 : decode cX7_lightestJoin 58 = .ok (.getfield 10, 3) := by decide +kernel
theorem dX7_lightestJoin_61 : decode cX7_lightestJoin 61 = .ok (.getfield 158, 3) := by decide +kernel
theorem dX7_lightestJoin_64 : decode cX7_lightestJoin 64 = .ok (.iload_n 1, 1) := by decide +kernel
theorem dX7_lightestJoin_65 : decode cX7_lightestJoin 65 = .ok (.iaload, 1) := by decide +kernel
theorem dX7_lightestJoin_66 : decode cX7_lightestJoin 66 = .ok (.if_icmp .ge 5, 3) := by decide +kernel
theorem dX7_lightestJoin_69 : decode cX7_lightestJoin 69 = .ok (.iload_n 2, 1) := by decide +kernel
theorem dX7_lightestJoin_70 : decode cX7_lightestJoin 70 = .ok (.istore_n 1, 1) := by decide +kernel
theorem dX7_lightestJoin_71 : decode cX7_lightestJoin 71 = .ok (.iinc 2 1, 3) := by decide +kernel
theorem dX7_lightestJoin_74 : decode cX7_lightestJoin 74 = .ok (.goto (-70), 3) := by decide +kernel
theorem dX7_lightestJoin_77 : decode cX7_lightestJoin 77 = .ok (.iload_n 1, 1) := by decide +kernel
theorem dX7_lightestJoin_78 : decode cX7_lightestJoin 78 = .ok (.ireturn, 1) := by decide +kernel
set_option maxRecDepth 20000 in
theorem ggX7_countGroups_X7_joinWhole : GoodIn wsX7_countGroups wsX7_joinWhole := goodIn_r _ [6, 7, 8, 9, 10, 5, 11, 1, 12, 13, 14, 15, 16, 17, 18, 19, 20, 21, 22, 23, 24, 25, 26, 27, 28, 29, 30, 31, 32, 33, 34, 35, 36, 37, 38, 39, 40, 41, 42, 43, 48, 49, 50, 51, 52, 44, 45, 46, 47] (by decide +kernel) (by decide +kernel)
set_option maxRecDepth 20000 in
theorem gX7_countGroups_X7_joinWhole : GoodIn wsX7_countGroups (wsV RX7 91 RX7 yX7_joinWhole wsX7_joinWhole) := goodIn_app (goodIn_of _ (by decide +kernel)) ggX7_countGroups_X7_joinWhole
theorem dX7_countGroups_0 : decode cX7_countGroups 0 = .ok (.aload_n 0, 1) := by decide +kernel
theorem dX7_countGroups_1 : decode cX7_countGroups 1 = .ok (.invokevirtual 91, 3) := by decide +kernel
theorem dX7_countGroups_4 : decode cX7_countGroups 4 = .ok (.pop, 1) := by decide +kernel
theorem dX7_countGroups_5 : decode cX7_countGroups 5 = .ok (.aload_n 0, 1) := by decide +kernel
theorem dX7_countGroups_6 : decode cX7_countGroups 6 = .ok (.getfield 26, 3) := by decide +kernel
theorem dX7_countGroups_9 : decode cX7_countGroups 9 = .ok (.getfield 244, 3) := by decide +kernel
theorem dX7_countGroups_12 : decode cX7_countGroups 12 = .ok (.ireturn, 1) := by decide +kernel
set_option maxRecDepth 20000 in
theorem ggX7_countEdgesInNoCycle_X7_fillRings : GoodIn wsX7_countEdgesInNoCycle wsX7_fillRings := goodIn_r _ [7, 8, 2, 1, 9, 10, 11, 12, 13, 14, 15, 16, 17, 18, 19, 20, 21, 22, 23, 24, 25, 26, 27, 28, 29, 37, 38, 39, 40, 41, 42, 43, 44, 45, 46, 47, 48, 49, 50, 51, 52, 53] (by decide +kernel) (by decide +kernel)
set_option maxRecDepth 20000 in
theorem gX7_countEdgesInNoCycle_X7_fillRings : GoodIn wsX7_countEdgesInNoCycle (wsV RX7 176 RX7 yX7_fillRings wsX7_fillRings) := goodIn_app (goodIn_of _ (by decide +kernel)) ggX7_countEdgesInNoCycle_X7_fillRings
set_option maxRecDepth 20000 in
theorem ggX7_countEdgesInNoCycle_J13_bitCount_95d88 : GoodIn wsX7_countEdgesInNoCycle wsJ13_bitCount_95d88 := goodIn_r _ [33, 34, 35, 36] (by decide +kernel) (by decide +kernel)
set_option maxRecDepth 20000 in
theorem gX7_countEdgesInNoCycle_J13_bitCount_95d88 : GoodIn wsX7_countEdgesInNoCycle (va_wsS RX7 246 yJ13_bitCount_95d88 wsJ13_bitCount_95d88) := goodIn_app (goodIn_of _ (by decide +kernel)) ggX7_countEdgesInNoCycle_J13_bitCount_95d88
theorem dX7_countEdgesInNoCycle_0 : decode cX7_countEdgesInNoCycle 0 = .ok (.aload_n 0, 1) := by decide +kernel
theorem dX7_countEdgesInNoCycle_1 : decode cX7_countEdgesInNoCycle 1 = .ok (.invokevirtual 176, 3) := by decide +kernel
theorem dX7_countEdgesInNoCycle_4 : decode cX7_countEdgesInNoCycle 4 = .ok (.istore_n 1, 1) := by decide +kernel
theorem dX7_countEdgesInNoCycle_5 : decode cX7_countEdgesInNoCycle 5 = .ok (.lconst 0, 1) := by decide +kernel
theorem dX7_countEdgesInNoCycle_6 : decode cX7_countEdgesInNoCycle 6 = .ok (.lstore_n 2, 1) := by decide +kernel
theorem dX7_countEdgesInNoCycle_7 : decode cX7_countEdgesInNoCycle 7 = .ok (.iconst 0, 1) := by decide +kernel
theorem dX7_countEdgesInNoCycle_8 : decode cX7_countEdgesInNoCycle 8 = .ok (.istore 4, 2) := by decide +kernel
theorem dX7_countEdgesInNoCycle_10 : decode cX7_countEdgesInNoCycle 10 = .ok (.iload 4, 2) := by decide +kernel
theorem dX7_countEdgesInNoCycle_12 : decode cX7_countEdgesInNoCycle 12 = .ok (.iload_n 1, 1) := by decide +kernel
theorem dX7_countEdgesInNoCycle_13 : decode cX7_countEdgesInNoCycle 13 = .ok (.if_icmp .ge 19, 3) := by decide +kernel
theorem dX7_countEdgesInNoCycle_16 : decode cX7_countEdgesInNoCycle 16 = .ok (.lload_n 2, 1) := by decide +kernel
theorem dX7_countEdgesInNoCycle_17 : decode cX7_countEdgesInNoCycle 17 = .ok (.aload_n 0, 1) := by decide +kernel
theorem dX7_countEdgesInNoCycle_18 : decode cX7_countEdgesInNoCycle 18 = .ok (.getfield 58, 3) := by decide +kernel
theorem dX7_countEdgesInNoCycle_21 : decode cX7_countEdgesInNoCycle 21 = .ok (.iload 4, 2) := by decide +kernel
theorem dX7_countEdgesInNoCycle_23 : decode cX7_countEdgesInNoCycle 23 = .ok (.laload, 1) := by decide +kernel
theorem dX7_countEdgesInNoCycle_24 : decode cX7_countEdgesInNoCycle 24 = .ok (.lor, 1) := by decide +kernel
theorem dX7_countEdgesInNoCycle_25 : decode cX7_countEdgesInNoCycle 25 = .ok (.lstore_n 2, 1) := by decide +kernel
theorem dX7_countEdgesInNoCycle_26 : decode cX7_countEdgesInNoCycle 26 = .ok (.iinc 4 1, 3) := by decide +kernel
theorem dX7_countEdgesInNoCycle_29 : decode cX7_countEdgesInNoCycle 29 = .ok (.goto (-19), 3) := by decide +kernel
theorem dX7_countEdgesInNoCycle_32 : decode cX7_countEdgesInNoCycle 32 = .ok (.aload_n 0, 1) := by decide +kernel
theorem dX7_countEdgesInNoCycle_33 : decode cX7_countEdgesInNoCycle 33 = .ok (.getfield 10, 3) := by decide +kernel
theorem dX7_countEdgesInNoCycle_36 : decode cX7_countEdgesInNoCycle 36 = .ok (.getfield 69, 3) := by decide +kernel
theorem dX7_countEdgesInNoCycle_39 : decode cX7_countEdgesInNoCycle 39 = .ok (.lload_n 2, 1) := by decide +kernel
theorem dX7_countEdgesInNoCycle_40 : decode cX7_countEdgesInNoCycle 40 = .ok (.invokestatic 246, 3) := by decide +kernel
theorem dX7_countEdgesInNoCycle_43 : decode cX7_countEdgesInNoCycle 43 = .ok (.isub, 1) := by decide +kernel
theorem dX7_countEdgesInNoCycle_44 : decode cX7_countEdgesInNoCycle 44 = .ok (.ireturn, 1) := by decide +kernel
set_option maxRecDepth 20000 in
theorem ggX7_hasOddCycle_X7_fillRings : GoodIn wsX7_hasOddCycle wsX7_fillRings := goodIn_r _ [6, 7, 8, 1, 9, 10, 11, 12, 13, 14, 15, 16, 17, 18, 19, 20, 21, 22, 23, 24, 25, 26, 27, 28, 29, 37, 38, 39, 40, 41, 42, 43, 44, 45, 46, 47, 48, 49, 50, 51, 52, 53] (by decide +kernel) (by decide +kernel)
set_option maxRecDepth 20000 in
theorem gX7_hasOddCycle_X7_fillRings : GoodIn wsX7_hasOddCycle (wsV RX7 176 RX7 yX7_fillRings wsX7_fillRings) := goodIn_app (goodIn_of _ (by decide +kernel)) ggX7_hasOddCycle_X7_fillRings
set_option maxRecDepth 20000 in
theorem ggX7_hasOddCycle_J13_bitCount_95d88 : GoodIn wsX7_hasOddCycle wsJ13_bitCount_95d88 := goodIn_r _ [33, 34, 35, 36] (by decide +kernel) (by decide +kernel)
set_option maxRecDepth 20000 in
theorem gX7_hasOddCycle_J13_bitCount_95d88 : GoodIn wsX7_hasOddCycle (va_wsS RX7 246 yJ13_bitCount_95d88 wsJ13_bitCount_95d88) := goodIn_app (goodIn_of _ (by decide +kernel)) ggX7_hasOddCycle_J13_bitCount_95d88
theorem dX7_hasOddCycle_0 : decode cX7_hasOddCycle 0 = .ok (.aload_n 0, 1) := by decide +kernel
theorem dX7_hasOddCycle_1 : decode cX7_hasOddCycle 1 = .ok (.invokevirtual 176, 3) := by decide +kernel
theorem dX7_hasOddCycle_4 : decode cX7_hasOddCycle 4 = .ok (.istore_n 1, 1) := by decide +kernel
theorem dX7_hasOddCycle_5 : decode cX7_hasOddCycle 5 = .ok (.iconst 0, 1) := by decide +kernel
theorem dX7_hasOddCycle_6 : decode cX7_hasOddCycle 6 = .ok (.istore_n 2, 1) := by decide +kernel
theorem dX7_hasOddCycle_7 : decode cX7_hasOddCycle 7 = .ok (.iload_n 2, 1) := by decide +kernel
theorem dX7_hasOddCycle_8 : decode cX7_hasOddCycle 8 = .ok (.iload_n 1, 1) := by decide +kernel
theorem dX7_hasOddCycle_9 : decode cX7_hasOddCycle 9 = .ok (.if_icmp .ge 25, 3) := by decide +kernel
theorem dX7_hasOddCycle_12 : decode cX7_hasOddCycle 12 = .ok (.aload_n 0, 1) := by decide +kernel
theorem dX7_hasOddCycle_13 : decode cX7_hasOddCycle 13 = .ok (.getfield 58, 3) := by decide +kernel
theorem dX7_hasOddCycle_16 : decode cX7_hasOddCycle 16 = .ok (.iload_n 2, 1) := by decide +kernel
theorem dX7_hasOddCycle_17 : decode cX7_hasOddCycle 17 = .ok (.laload, 1) := by decide +kernel
theorem dX7_hasOddCycle_18 : decode cX7_hasOddCycle 18 = .ok (.invokestatic 246, 3) := by decide +kernel
theorem dX7_hasOddCycle_21 : decode cX7_hasOddCycle 21 = .ok (.iconst 2, 1) := by decide +kernel
theorem dX7_hasOddCycle_22 : decode cX7_hasOddCycle 22 = .ok (.irem, 1) := by decide +kernel
theorem dX7_hasOddCycle_23 : decode cX7_hasOddCycle 23 = .ok (.ifCond .eq 5, 3) := by decide +kernel
theorem dX7_hasOddCycle_26 : decode cX7_hasOddCycle 26 = .ok (.iconst 1, 1) := by decide +kernel
theorem dX7_hasOddCycle_27 : decode cX7_hasOddCycle 27 = .ok (.ireturn, 1) := by decide +kernel
theorem dX7_hasOddCycle_28 : decode cX7_hasOddCycle 28 = .ok (.iinc 2 1, 3) := by decide +kernel
theorem dX7_hasOddCycle_31 : decode cX7_hasOddCycle 31 = .ok (.goto (-24), 3) := by decide +kernel
theorem dX7_hasOddCycle_34 : decode cX7_hasOddCycle 34 = .ok (.iconst 0, 1) := by decide +kernel
theorem dX7_hasOddCycle_35 : decode cX7_hasOddCycle 35 = .ok (.ireturn, 1) := by decide +kernel
set_option maxRecDepth 20000 in
theorem ggX7_countCuttingVertices_X7_countGroups : GoodIn wsX7_countCuttingVertices wsX7_countGroups := goodIn_r _ [7, 2, 8, 9, 10, 6, 11, 1, 12, 13, 14, 15, 16, 17, 18, 19, 20, 21, 22, 23, 24, 25, 26, 27, 28, 29, 30, 31, 32, 33, 34, 35, 36, 37, 38, 39, 48, 49, 50, 51, 52, 53, 54, 55, 61, 62, 63, 64, 56, 57, 58, 59, 60] (by decide +kernel) (by decide +kernel)
set_option maxRecDepth 20000 in
theorem gX7_countCuttingVertices_X7_countGroups : GoodIn wsX7_countCuttingVertices (wsV RX7 208 RX7 yX7_countGroups wsX7_countGroups) := goodIn_app (goodIn_of _ (by decide +kernel)) ggX7_countCuttingVertices_X7_countGroups
set_option maxRecDepth 20000 in
theorem ggX7_countCuttingVertices_X2_edgesApartFrom : GoodIn wsX7_countCuttingVertices wsX2_edgesApartFrom := goodIn_r _ [44, 45, 46, 47, 56, 57, 58, 59, 60] (by decide +kernel) (by decide +kernel)
set_option maxRecDepth 20000 in
theorem gX7_countCuttingVertices_X2_edgesApartFrom : GoodIn wsX7_countCuttingVertices (wsV RX7 251 RX2 yX2_edgesApartFrom wsX2_edgesApartFrom) := goodIn_app (goodIn_of _ (by decide +kernel)) ggX7_countCuttingVertices_X2_edgesApartFrom
set_option maxRecDepth 20000 in
theorem ggX7_countCuttingVertices_X7_joinSet : GoodIn wsX7_countCuttingVertices wsX7_joinSet := goodIn_r _ [15, 2, 1, 16, 17, 18, 19, 20, 21, 22, 23, 24, 25, 26, 6, 27, 28, 29, 30, 31, 32, 33, 34, 35, 36, 37, 38, 39, 48, 49, 50, 51, 52, 53, 54, 55, 56, 57, 58, 59, 60, 61, 62, 63, 64] (by decide +kernel) (by decide +kernel)
set_option maxRecDepth 20000 in
theorem gX7_countCuttingVertices_X7_joinSet : GoodIn wsX7_countCuttingVertices (wsV RX7 114 RX7 yX7_joinSet wsX7_joinSet) := goodIn_app (goodIn_of _ (by decide +kernel)) ggX7_countCuttingVertices_X7_joinSet
theorem dX7_countCuttingVertices_0 : decode cX7_countCuttingVertices 0 = .ok (.aload_n 0, 1) := by decide +kernel
theorem dX7_countCuttingVertices_1 : decode cX7_countCuttingVertices 1 = .ok (.invokevirtual 208, 3) := by decide +kernel
theorem dX7_countCuttingVertices_4 : decode cX7_countCuttingVertices 4 = .ok (.istore_n 1, 1) := by decide +kernel
theorem dX7_countCuttingVertices_5 : decode cX7_countCuttingVertices 5 = .ok (.iconst 0, 1) := by decide +kernel
theorem dX7_countCuttingVertices_6 : decode cX7_countCuttingVertices 6 = .ok (.istore_n 2, 1) := by decide +kernel
theorem dX7_countCuttingVertices_7 : decode cX7_countCuttingVertices 7 = .ok (.iconst 0, 1) := by decide +kernel
theorem dX7_countCuttingVertices_8 : decode cX7_countCuttingVertices 8 = .ok (.istore_n 3, 1) := by decide +kernel
theorem dX7_countCuttingVertices_9 : decode cX7_countCuttingVertices 9 = .ok (.iload_n 3, 1) := by decide +kernel
theorem dX7_countCuttingVertices_10 : decode cX7_countCuttingVertices 10 = .ok (.aload_n 0, 1) := by decide +kernel
theorem dX7_countCuttingVertices_11 : decode cX7_countCuttingVertices 11 = .ok (.getfield 10, 3) := by decide +kernel
theorem dX7_countCuttingVertices_14 : decode cX7_countCuttingVertices 14 = .ok (.getfield 205, 3) := by decide +kernel
theorem dX7_countCuttingVertices_17 : decode cX7_countCuttingVertices 17 = .ok (.if_icmp .ge 38, 3) := by decide +kernel
theorem dX7_countCuttingVertices_20 : decode cX7_countCuttingVertices 20 = .ok (.aload_n 0, 1) := by decide +kernel
theorem dX7_countCuttingVertices_21 : decode cX7_countCuttingVertices 21 = .ok (.aload_n 0, 1) := by decide +kernel
theorem dX7_countCuttingVertices_22 : decode cX7_countCuttingVertices 22 = .ok (.getfield 10, 3) := by decide +kernel
theorem dX7_countCuttingVertices_25 : decode cX7_countCuttingVertices 25 = .ok (.iload_n 3, 1) := by decide +kernel
theorem dX7_countCuttingVertices_26 : decode cX7_countCuttingVertices 26 = .ok (.invokevirtual 251, 3) := by decide +kernel
theorem dX7_countCuttingVertices_29 : decode cX7_countCuttingVertices 29 = .ok (.invokevirtual 114, 3) := by decide +kernel
theorem dX7_countCuttingVertices_32 : decode cX7_countCuttingVertices 32 = .ok (.pop, 1) := by decide +kernel
theorem dX7_countCuttingVertices_33 : decode cX7_countCuttingVertices 33 = .ok (.aload_n 0, 1) := by decide +kernel
theorem dX7_countCuttingVertices_34 : decode cX7_countCuttingVertices 34 = .ok (.getfield 26, 3) := by decide +kernel
theorem dX7_countCuttingVertices_37 : decode cX7_countCuttingVertices 37 = .ok (.getfield 244, 3) := by decide +kernel
theorem dX7_countCuttingVertices_40 : decode cX7_countCuttingVertices 40 = .ok (.iconst 1, 1) := by decide +kernel
theorem dX7_countCuttingVertices_41 : decode cX7_countCuttingVertices 41 = .ok (.isub, 1) := by decide +kernel
theorem dX7_countCuttingVertices_42 : decode cX7_countCuttingVertices 42 = .ok (.iload_n 1, 1) := by decide +kernel
theorem dX7_countCuttingVertices_43 : decode cX7_countCuttingVertices 43 = .ok (.if_icmp .le 6, 3) := by decide +kernel
theorem dX7_countCuttingVertices_46 : decode cX7_countCuttingVertices 46 = .ok (.iinc 2 1, 3) := by decide +kernel
theorem dX7_countCuttingVertices_49 : decode cX7_countCuttingVertices 49 = .ok (.iinc 3 1, 3) := by decide +kernel
theorem dX7_countCuttingVertices_52 : decode cX7_countCuttingVertices 52 = .ok (.goto (-43), 3) := by decide +kernel
theorem dX7_countCuttingVertices_55 : decode cX7_countCuttingVertices 55 = .ok (.iload_n 2, 1) := by decide +kernel
theorem dX7_countCuttingVertices_56 : decode cX7_countCuttingVertices 56 = .ok (.ireturn, 1) := by decide +kernel
theorem dX8_init_0 : decode cX8_init 0 = .ok (.aload_n 0, 1) := by decide +kernel
theorem dX8_init_1 : decode cX8_init 1 = .ok (.invokespecial 1, 3) := by decide +kernel
theorem dX8_init_4 : decode cX8_init 4 = .ok (.aload_n 0, 1) := by decide +kernel
theorem dX8_init_5 : decode cX8_init 5 = .ok (.iconst 1, 1) := by decide +kernel
theorem dX8_init_6 : decode cX8_init 6 = .ok (.putfield 7, 3) := by decide +kernel
theorem dX8_init_9 : decode cX8_init 9 = .ok (.aload_n 0, 1) := by decide +kernel
theorem dX8_init_10 : decode cX8_init 10 = .ok (.bipush 40, 2) := by decide +kernel
theorem dX8_init_12 : decode cX8_init 12 = .ok (.newarray .int, 2) := by decide +kernel
theorem dX8_init_14 : decode cX8_init 14 = .ok (.putfield 13, 3) := by decide +kernel
theorem dX8_init_17 : decode cX8_init 17 = .ok (.aload_n 0, 1) := by decide +kernel
theorem dX8_init_18 : decode cX8_init 18 = .ok (.bipush 40, 2) := by decide +kernel
theorem dX8_init_20 : decode cX8_init 20 = .ok (.newarray .int, 2) := by decide +kernel
theorem dX8_init_22 : decode cX8_init 22 = .ok (.putfield 17, 3) := by decide +kernel
theorem dX8_init_25 : decode cX8_init 25 = .ok (.aload_n 0, 1) := by decide +kernel
theorem dX8_init_26 : decode cX8_init 26 = .ok (.bipush 40, 2) := by decide +kernel
theorem dX8_init_28 : decode cX8_init 28 = .ok (.newarray .int, 2) := by decide +kernel
theorem dX8_init_30 : decode cX8_init 30 = .ok (.putfield 20, 3) := by decide +kernel
theorem dX8_init_33 : decode cX8_init 33 = .ok (.aload_n 0, 1) := by decide +kernel
theorem dX8_init_34 : decode cX8_init 34 = .ok (.bipush 64, 2) := by decide +kernel
theorem dX8_init_36 : decode cX8_init 36 = .ok (.newarray .long, 2) := by decide +kernel
theorem dX8_init_38 : decode cX8_init 38 = .ok (.putfield 23, 3) := by decide +kernel
theorem dX8_init_41 : decode cX8_init 41 = .ok (.aload_n 0, 1) := by decide +kernel
theorem dX8_init_42 : decode cX8_init 42 = .ok (.bipush 16, 2) := by decide +kernel
theorem dX8_init_44 : decode cX8_init 44 = .ok (.newarray .int, 2) := by decide +kernel
theorem dX8_init_46 : decode cX8_init 46 = .ok (.putfield 27, 3) := by decide +kernel
theorem dX8_init_49 : decode cX8_init 49 = .ok (.aload_n 0, 1) := by decide +kernel
theorem dX8_init_50 : decode cX8_init 50 = .ok (.bipush 16, 2) := by decide +kernel
theorem dX8_init_52 : decode cX8_init 52 = .ok (.newarray .long, 2) := by decide +kernel
theorem dX8_init_54 : decode cX8_init 54 = .ok (.putfield 30, 3) := by decide +kernel
theorem dX8_init_57 : decode cX8_init 57 = .ok (.aload_n 0, 1) := by decide +kernel
theorem dX8_init_58 : decode cX8_init 58 = .ok (.bipush 40, 2) := by decide +kernel
theorem dX8_init_60 : decode cX8_init 60 = .ok (.newarray .long, 2) := by decide +kernel
theorem dX8_init_62 : decode cX8_init 62 = .ok (.putfield 33, 3) := by decide +kernel
theorem dX8_init_65 : decode cX8_init 65 = .ok (.aload_n 0, 1) := by decide +kernel
theorem dX8_init_66 : decode cX8_init 66 = .ok (.bipush 40, 2) := by decide +kernel
theorem dX8_init_68 : decode cX8_init 68 = .ok (.newarray .int, 2) := by decide +kernel
theorem dX8_init_70 : decode cX8_init 70 = .ok (.putfield 36, 3) := by decide +kernel
theorem dX8_init_73 : decode cX8_init 73 = .ok (.aload_n 0, 1) := by decide +kernel
theorem dX8_init_74 : decode cX8_init 74 = .ok (.sipush 16384, 3) := by decide +kernel
theorem dX8_init_77 : decode cX8_init 77 = .ok (.newarray .long, 2) := by decide +kernel
theorem dX8_init_79 : decode cX8_init 79 = .ok (.putfield 39, 3) := by decide +kernel
theorem dX8_init_82 : decode cX8_init 82 = .ok (.aload_n 0, 1) := by decide +kernel
theorem dX8_init_83 : decode cX8_init 83 = .ok (.sipush 16384, 3) := by decide +kernel
theorem dX8_init_86 : decode cX8_init 86 = .ok (.newarray .long, 2) := by decide +kernel
theorem dX8_init_88 : decode cX8_init 88 = .ok (.putfield 42, 3) := by decide +kernel
theorem dX8_init_91 : decode cX8_init 91 = .ok (.aload_n 0, 1) := by decide +kernel
theorem dX8_init_92 : decode cX8_init 92 = .ok (.bipush 64, 2) := by decide +kernel
theorem dX8_init_94 : decode cX8_init 94 = .ok (.newarray .long, 2) := by decide +kernel
theorem dX8_init_96 : decode cX8_init 96 = .ok (.putfield 45, 3) := by decide +kernel
theorem dX8_init_99 : decode cX8_init 99 = .ok (.aload_n 0, 1) := by decide +kernel
theorem dX8_init_100 : decode cX8_init 100 = .ok (.sipush 256, 3) := by decide +kernel
theorem dX8_init_103 : decode cX8_init 103 = .ok (.newarray .long, 2) := by decide +kernel
theorem dX8_init_105 : decode cX8_init 105 = .ok (.putfield 48, 3) := by decide +kernel
theorem dX8_init_108 : decode cX8_init 108 = .ok (.aload_n 0, 1) := by decide +kernel
theorem dX8_init_109 : decode cX8_init 109 = .ok (.bipush 16, 2) := by decide +kernel
theorem dX8_init_111 : decode cX8_init 111 = .ok (.newarray .int, 2) := by decide +kernel
theorem dX8_init_113 : decode cX8_init 113 = .ok (.putfield 51, 3) := by decide +kernel
theorem dX8_init_116 : decode cX8_init 116 = .ok (.aload_n 0, 1) := by decide +kernel
theorem dX8_init_117 : decode cX8_init 117 = .ok (.bipush 16, 2) := by decide +kernel
theorem dX8_init_119 : decode cX8_init 119 = .ok (.newarray .boolean, 2) := by decide +kernel
theorem dX8_init_121 : decode cX8_init 121 = .ok (.putfield 54, 3) := by decide +kernel
theorem dX8_init_124 : decode cX8_init 124 = .ok (.return_, 1) := by decide +kernel
theorem dX8_thrown_0 : decode cX8_thrown 0 = .ok (.aload_n 0, 1) := by decide +kernel
theorem dX8_thrown_1 : decode cX8_thrown 1 = .ok (.getfield 58, 3) := by decide +kernel
theorem dX8_thrown_4 : decode cX8_thrown 4 = .ok (.ireturn, 1) := by decide +kernel
theorem dX8_throwing_0 : decode cX8_throwing 0 = .ok (.aload_n 0, 1) := by decide +kernel
theorem dX8_throwing_1 : decode cX8_throwing 1 = .ok (.iload_n 1, 1) := by decide +kernel
theorem dX8_throwing_2 : decode cX8_throwing 2 = .ok (.ifCond .eq 7, 3) := by decide +kernel
theorem dX8_throwing_5 : decode cX8_throwing 5 = .ok (.iconst 1, 1) := by decide +kernel
theorem dX8_throwing_6 : decode cX8_throwing 6 = .ok (.goto 12, 3) := by decide +kernel
theorem dX8_throwing_9 : decode cX8_throwing 9 = .ok (.iload_n 2, 1) := by decide +kernel
theorem dX8_throwing_10 : decode cX8_throwing 10 = .ok (.ifCond .eq 7, 3) := by decide +kernel
theorem dX8_throwing_13 : decode cX8_throwing 13 = .ok (.iconst 2, 1) := by decide +kernel
theorem dX8_throwing_14 : decode cX8_throwing 14 = .ok (.goto 4, 3) := by decide +kernel
theorem dX8_throwing_17 : decode cX8_throwing 17 = .ok (.iconst 0, 1) := by decide +kernel
theorem dX8_throwing_18 : decode cX8_throwing 18 = .ok (.putfield 58, 3) := by decide +kernel
theorem dX8_throwing_21 : decode cX8_throwing 21 = .ok (.aload_n 0, 1) := by decide +kernel
theorem dX8_throwing_22 : decode cX8_throwing 22 = .ok (.getfield 58, 3) := by decide +kernel
theorem dX8_throwing_25 : decode cX8_throwing 25 = .ok (.ifCond .le 7, 3) := by decide +kernel
theorem dX8_throwing_28 : decode cX8_throwing 28 = .ok (.iconst 1, 1) := by decide +kernel
theorem dX8_throwing_29 : decode cX8_throwing 29 = .ok (.goto 4, 3) := by decide +kernel
theorem dX8_throwing_32 : decode cX8_throwing 32 = .ok (.iconst 0, 1) := by decide +kernel
theorem dX8_throwing_33 : decode cX8_throwing 33 = .ok (.ireturn, 1) := by decide +kernel
theorem dX8_isVertex_0 : decode cX8_isVertex 0 = .ok (.iload_n 1, 1) := by decide +kernel
theorem dX8_isVertex_1 : decode cX8_isVertex 1 = .ok (.ifCond .lt 15, 3) := by decide +kernel
theorem dX8_isVertex_4 : decode cX8_isVertex 4 = .ok (.iload_n 1, 1) := by decide +kernel
theorem dX8_isVertex_5 : decode cX8_isVertex 5 = .ok (.aload_n 0, 1) := by decide +kernel
theorem dX8_isVertex_6 : decode cX8_isVertex 6 = .ok (.getfield 7, 3) := by decide +kernel
theorem dX8_isVertex_9 : decode cX8_isVertex 9 = .ok (.if_icmp .ge 7, 3) := by decide +kernel
theorem dX8_isVertex_12 : decode cX8_isVertex 12 = .ok (.iconst 1, 1) := by decide +kernel
theorem dX8_isVertex_13 : decode cX8_isVertex 13 = .ok (.goto 4, 3) := by decide +kernel
theorem dX8_isVertex_16 : decode cX8_isVertex 16 = .ok (.iconst 0, 1) := by decide +kernel
theorem dX8_isVertex_17 : decode cX8_isVertex 17 = .ok (.ireturn, 1) := by decide +kernel
theorem dX8_isSet_0 : decode cX8_isSet 0 = .ok (.lload_n 1, 1) := by decide +kernel
theorem dX8_isSet_1 : decode cX8_isSet 1 = .ok (.aload_n 0, 1) := by decide +kernel
theorem dX8_isSet_2 : decode cX8_isSet 2 = .ok (.getfield 61, 3) := by decide +kernel
theorem dX8_isSet_5 : decode cX8_isSet 5 = .ok (.lushr, 1) := by decide +kernel
theorem dX8_isSet_6 : decode cX8_isSet 6 = .ok (.lconst 0, 1) := by decide +kernel
theorem dX8_isSet_7 : decode cX8_isSet 7 = .ok (.lcmp, 1) := by decide +kernel
theorem dX8_isSet_8 : decode cX8_isSet 8 = .ok (.ifCond .ne 7, 3) := by decide +kernel
theorem dX8_isSet_11 : decode cX8_isSet 11 = .ok (.iconst 1, 1) := by decide +kernel
theorem dX8_isSet_12 : decode cX8_isSet 12 = .ok (.goto 4, 3) := by decide +kernel
theorem dX8_isSet_15 : decode cX8_isSet 15 = .ok (.iconst 0, 1) := by decide +kernel
theorem dX8_isSet_16 : decode cX8_isSet 16 = .ok (.ireturn, 1) := by decide +kernel
theorem dX8_beginGroups_0 : decode cX8_beginGroups 0 = .ok (.aload_n 0, 1) := by decide +kernel
theorem dX8_beginGroups_1 : decode cX8_beginGroups 1 = .ok (.iconst 0, 1) := by decide +kernel
theorem dX8_beginGroups_2 : decode cX8_beginGroups 2 = .ok (.putfield 64, 3) := by decide +kernel
theorem dX8_beginGroups_5 : decode cX8_beginGroups 5 = .ok (.iconst 0, 1) := by decide +kernel
theorem dX8_beginGroups_6 : decode cX8_beginGroups 6 = .ok (.istore_n 1, 1) := by decide +kernel
theorem dX8_beginGroups_7 : decode cX8_beginGroups 7 = .ok (.iload_n 1, 1) := by decide +kernel
theorem dX8_beginGroups_8 : decode cX8_beginGroups 8 = .ok (.bipush 16, 2) := by decide +kernel
theorem dX8_beginGroups_10 : decode cX8_beginGroups 10 = .ok (.if_icmp .ge 23, 3) := by decide +kernel
theorem dX8_beginGroups_13 : decode cX8_beginGroups 13 = .ok (.aload_n 0, 1) := by decide +kernel
theorem dX8_beginGroups_14 : decode cX8_beginGroups 14 = .ok (.getfield 27, 3) := by decide +kernel
theorem dX8_beginGroups_17 : decode cX8_beginGroups 17 = .ok (.iload_n 1, 1) := by decide +kernel
theorem dX8_beginGroups_18 : decode cX8_beginGroups 18 = .ok (.iload_n 1, 1) := by decide +kernel
theorem dX8_beginGroups_19 : decode cX8_beginGroups 19 = .ok (.iastore, 1) := by decide +kernel
theorem dX8_beginGroups_20 : decode cX8_beginGroups 20 = .ok (.aload_n 0, 1) := by decide +kernel
theorem dX8_beginGroups_21 : decode cX8_beginGroups 21 = .ok (.getfield 30, 3) := by decide +kernel
theorem dX8_beginGroups_24 : decode cX8_beginGroups 24 = .ok (.iload_n 1, 1) := by decide +kernel
theorem dX8_beginGroups_25 : decode cX8_beginGroups 25 = .ok (.lconst 0, 1) := by decide +kernel
theorem dX8_beginGroups_26 : decode cX8_beginGroups 26 = .ok (.lastore, 1) := by decide +kernel
theorem dX8_beginGroups_27 : decode cX8_beginGroups 27 = .ok (.iinc 1 1, 3) := by decide +kernel
theorem dX8_beginGroups_30 : decode cX8_beginGroups 30 = .ok (.goto (-23), 3) := by decide +kernel
theorem dX8_beginGroups_33 : decode cX8_beginGroups 33 = .ok (.return_, 1) := by decide +kernel
theorem dX8_joins_0 : decode cX8_joins 0 = .ok (.aload_n 0, 1) := by decide +kernel
theorem dX8_joins_1 : decode cX8_joins 1 = .ok (.getfield 13, 3) := by decide +kernel
theorem dX8_joins_4 : decode cX8_joins 4 = .ok (.iload_n 1, 1) := by decide +kernel
theorem dX8_joins_5 : decode cX8_joins 5 = .ok (.iaload, 1) := by decide +kernel
theorem dX8_joins_6 : decode cX8_joins 6 = .ok (.istore_n 2, 1) := by decide +kernel
theorem dX8_joins_7 : decode cX8_joins 7 = .ok (.aload_n 0, 1) := by decide +kernel
theorem dX8_joins_8 : decode cX8_joins 8 = .ok (.getfield 17, 3) := by decide +kernel
theorem dX8_joins_11 : decode cX8_joins 11 = .ok (.iload_n 1, 1) := by decide +kernel
theorem dX8_joins_12 : decode cX8_joins 12 = .ok (.iaload, 1) := by decide +kernel
theorem dX8_joins_13 : decode cX8_joins 13 = .ok (.istore_n 3, 1) := by decide +kernel
theorem dX8_joins_14 : decode cX8_joins 14 = .ok (.aload_n 0, 1) := by decide +kernel
theorem dX8_joins_15 : decode cX8_joins 15 = .ok (.getfield 27, 3) := by decide +kernel
theorem dX8_joins_18 : decode cX8_joins 18 = .ok (.iload_n 2, 1) := by decide +kernel
theorem dX8_joins_19 : decode cX8_joins 19 = .ok (.iaload, 1) := by decide +kernel
theorem dX8_joins_20 : decode cX8_joins 20 = .ok (.aload_n 0, 1) := by decide +kernel
theorem dX8_joins_21 : decode cX8_joins 21 = .ok (.getfield 27, 3) := by decide +kernel
theorem dX8_joins_24 : decode cX8_joins 24 = .ok (.iload_n 3, 1) := by decide +kernel
theorem dX8_joins_25 : decode cX8_joins 25 = .ok (.iaload, 1) := by decide +kernel
theorem dX8_joins_26 : decode cX8_joins 26 = .ok (.if_icmp .ne 51, 3) := by decide +kernel
theorem dX8_joins_29 : decode cX8_joins 29 = .ok (.aload_n 0, 1) := by decide +kernel
theorem dX8_joins_30 : decode cX8_joins 30 = .ok (.getfield 33, 3) := by decide +kernel
theorem dX8_joins_33 : decode cX8_joins 33 = .ok (.aload_n 0, 1) := by decide +kernel
theorem dX8_joins_34 : decode cX8_joins 34 = .ok (.getfield 64, 3) := by decide +kernel
theorem dX8_joins_37 : decode cX8_joins 37 = .ok (.aload_n 0, 1) := by decide +kernel
theorem dX8_joins_38 : decode cX8_joins 38 = .ok (.getfield 30, 3) := by decide +kernel
theorem dX8_joins_41 : decode cX8_joins 41 = .ok (.iload_n 2, 1) := by decide +kernel
theorem dX8_joins_42 : decode cX8_joins 42 = .ok (.laload, 1) := by decide +kernel
theorem dX8_joins_43 : decode cX8_joins 43 = .ok (.aload_n 0, 1) := by decide +kernel
theorem dX8_joins_44 : decode cX8_joins 44 = .ok (.getfield 30, 3) := by decide +kernel
theorem dX8_joins_47 : decode cX8_joins 47 = .ok (.iload_n 3, 1) := by decide +kernel
theorem dX8_joins_48 : decode cX8_joins 48 = .ok (.laload, 1) := by decide +kernel
theorem dX8_joins_49 : decode cX8_joins 49 = .ok (.lxor, 1) := by decide +kernel
theorem dX8_joins_50 : decode cX8_joins 50 = .ok (.lconst 1, 1) := by decide +kernel
theorem dX8_joins_51 : decode cX8_joins 51 = .ok (.iload_n 1, 1) := by decide +kernel
theorem dX8_joins_52 : decode cX8_joins 52 = .ok (.lshl, 1) := by decide +kernel
theorem dX8_joins_53 : decode cX8_joins 53 = .ok (.lxor, 1) := by decide +kernel
theorem dX8_joins_54 : decode cX8_joins 54 = .ok (.lastore, 1) := by decide +kernel
theorem dX8_joins_55 : decode cX8_joins 55 = .ok (.aload_n 0, 1) := by decide +kernel
theorem dX8_joins_56 : decode cX8_joins 56 = .ok (.getfield 36, 3) := by decide +kernel
theorem dX8_joins_59 : decode cX8_joins 59 = .ok (.aload_n 0, 1) := by decide +kernel
theorem dX8_joins_60 : decode cX8_joins 60 = .ok (.getfield 64, 3) := by decide +kernel
theorem dX8_joins_63 : decode cX8_joins 63 = .ok (.iload_n 1, 1) := by decide +kernel
theorem dX8_joins_64 : decode cX8_joins 64 = .ok (.iastore, 1) := by decide +kernel
theorem dX8_joins_65 : decode cX8_joins 65 = .ok (.aload_n 0, 1) := by decide +kernel
theorem dX8_joins_66 : decode cX8_joins 66 = .ok (.dup, 1) := by decide +kernel
theorem dX8_joins_67 : decode cX8_joins 67 = .ok (.getfield 64, 3) := by decide +kernel
theorem dX8_joins_70 : decode cX8_joins 70 = .ok (.iconst 1, 1) := by decide +kernel
theorem dX8_joins_71 : decode cX8_joins 71 = .ok (.iadd, 1) := by decide +kernel
theorem dX8_joins_72 : decode cX8_joins 72 = .ok (.putfield 64, 3) := by decide +kernel
theorem dX8_joins_75 : decode cX8_joins 75 = .ok (.iconst 0, 1) := by decide +kernel
theorem dX8_joins_76 : decode cX8_joins 76 = .ok (.ireturn, 1) := by decide +kernel
theorem dX8_joins_77 : decode cX8_joins 77 = .ok (.aload_n 0, 1) := by decide +kernel
theorem dX8_joins_78 : decode cX8_joins 78 = .ok (.getfield 27, 3) := by decide +kernel
theorem dX8_joins_81 : decode cX8_joins 81 = .ok (.iload_n 3, 1) := by decide +kernel
theorem dX8_joins_82 : decode cX8_joins 82 = .ok (.iaload, 1) := by decide +kernel
theorem dX8_joins_83 : decode cX8_joins 83 = .ok (.istore 4, 2) := by decide +kernel
theorem dX8_joins_85 : decode cX8_joins 85 = .ok (.aload_n 0, 1) := by decide +kernel
theorem dX8_joins_86 : decode cX8_joins 86 = .ok (.getfield 30, 3) := by decide +kernel
theorem dX8_joins_89 : decode cX8_joins 89 = .ok (.iload_n 2, 1) := by decide +kernel
theorem dX8_joins_90 : decode cX8_joins 90 = .ok (.laload, 1) := by decide +kernel
theorem dX8_joins_91 : decode cX8_joins 91 = .ok (.aload_n 0, 1) := by decide +kernel
theorem dX8_joins_92 : decode cX8_joins 92 = .ok (.getfield 30, 3) := by decide +kernel
theorem dX8_joins_95 : decode cX8_joins 95 = .ok (.iload_n 3, 1) := by decide +kernel
theorem dX8_joins_96 : decode cX8_joins 96 = .ok (.laload, 1) := by decide +kernel
theorem dX8_joins_97 : decode cX8_joins 97 = .ok (.lxor, 1) := by decide +kernel
theorem dX8_joins_98 : decode cX8_joins 98 = .ok (.lconst 1, 1) := by decide +kernel
theorem dX8_joins_99 : decode cX8_joins 99 = .ok (.iload_n 1, 1) := by decide +kernel
theorem dX8_joins_100 : decode cX8_joins 100 = .ok (.lshl, 1) := by decide +kernel
theorem dX8_joins_101 : decode cX8_joins 101 = .ok (.lxor, 1) := by decide +kernel
theorem dX8_joins_102 : decode cX8_joins 102 = .ok (.lstore 5, 2) := by decide +kernel
theorem dX8_joins_104 : decode cX8_joins 104 = .ok (.iconst 0, 1) := by decide +kernel
theorem dX8_joins_105 : decode cX8_joins 105 = .ok (.istore 7, 2) := by decide +kernel
theorem dX8_joins_107 : decode cX8_joins 107 = .ok (.iload 7, 2) := by decide +kernel
theorem dX8_joins_109 : decode cX8_joins 109 = .ok (.aload_n 0, 1) := by decide +kernel
theorem dX8_joins_110 : decode cX8_joins 110 = .ok (.getfield 7, 3) := by decide +kernel
theorem dX8_joins_113 : decode cX8_joins 113 = .ok (.if_icmp .ge 49, 3) := by decide +kernel
theorem dX8_joins_116 : decode cX8_joins 116 = .ok (.aload_n 0, 1) := by decide +kernel
theorem dX8_joins_117 : decode cX8_joins 117 = .ok (.getfield 27, 3) := by decide +kernel
theorem dX8_joins_120 : decode cX8_joins 120 = .ok (.iload 7, 2) := by decide +kernel
theorem dX8_joins_122 : decode cX8_joins 122 = .ok (.iaload, 1) := by decide +kernel
theorem dX8_joins_123 : decode cX8_joins 123 = .ok (.iload 4, 2) := by decide +kernel
theorem dX8_joins_125 : decode cX8_joins 125 = .ok (.if_icmp .eq 6, 3) := by decide +kernel
theorem dX8_joins_128 : decode cX8_joins 128 = .ok (.goto 28, 3) := by decide +kernel
theorem dX8_joins_131 : decode cX8_joins 131 = .ok (.aload_n 0, 1) := by decide +kernel
theorem dX8_joins_132 : decode cX8_joins 132 = .ok (.getfield 27, 3) := by decide +kernel
theorem dX8_joins_135 : decode cX8_joins 135 = .ok (.iload 7, 2) := by decide +kernel
theorem dX8_joins_137 : decode cX8_joins 137 = .ok (.aload_n 0, 1) := by decide +kernel
theorem dX8_joins_138 : decode cX8_joins 138 = .ok (.getfield 27, 3) := by decide +kernel
theorem dX8_joins_141 : decode cX8_joins 141 = .ok (.iload_n 2, 1) := by decide +kernel
theorem dX8_joins_142 : decode cX8_joins 142 = .ok (.iaload, 1) := by decide +kernel
theorem dX8_joins_143 : decode cX8_joins 143 = .ok (.iastore, 1) := by decide +kernel
theorem dX8_joins_144 : decode cX8_joins 144 = .ok (.aload_n 0, 1) := by decide +kernel
theorem dX8_joins_145 : decode cX8_joins 145 = .ok (.getfield 30, 3) := by decide +kernel
theorem dX8_joins_148 : decode cX8_joins 148 = .ok (.iload 7, 2) := by decide +kernel
theorem dX8_joins_150 : decode cX8_joins 150 = .ok (.dup2, 1) := by decide +kernel
theorem dX8_joins_151 : decode cX8_joins 151 = .ok (.laload, 1) := by decide +kernel
theorem dX8_joins_152 : decode cX8_joins 152 = .ok (.lload 5, 2) := by decide +kernel
theorem dX8_joins_154 : decode cX8_joins 154 = .ok (.lxor, 1) := by decide +kernel
theorem dX8_joins_155 : decode cX8_joins 155 = .ok (.lastore, 1) := by decide +kernel
theorem dX8_joins_156 : decode cX8_joins 156 = .ok (.iinc 7 1, 3) := by decide +kernel
theorem dX8_joins_159 : decode cX8_joins 159 = .ok (.goto (-52), 3) := by decide +kernel
theorem dX8_joins_162 : decode cX8_joins 162 = .ok (.iconst 1, 1) := by decide +kernel
theorem dX8_joins_163 : decode cX8_joins 163 = .ok (.ireturn, 1) := by decide +kernel
set_option maxRecDepth 20000 in
theorem ggX8_groups_X8_beginGroups : GoodIn wsX8_groups wsX8_beginGroups := goodIn_r _ [7, 8, 9, 10, 19, 20, 21, 22, 23, 24, 25, 26, 27, 28, 29, 30, 31, 32, 33, 34, 35, 36, 37, 38] (by decide +kernel) (by decide +kernel)
set_option maxRecDepth 20000 in
theorem gX8_groups_X8_beginGroups : GoodIn wsX8_groups (wsV RX8 67 RX8 yX8_beginGroups wsX8_beginGroups) := goodIn_app (goodIn_of _ (by decide +kernel)) ggX8_groups_X8_beginGroups
set_option maxRecDepth 20000 in
theorem ggX8_groups_X8_joins : GoodIn wsX8_groups wsX8_joins := goodIn_r _ [14, 15, 16, 9, 17, 8, 10, 18, 1, 19, 20, 21, 22, 23, 24, 25, 26, 27, 28, 29, 30, 31, 32, 33, 34, 35, 36, 37, 38] (by decide +kernel) (by decide +kernel)
set_option maxRecDepth 20000 in
theorem gX8_groups_X8_joins : GoodIn wsX8_groups (wsV RX8 70 RX8 yX8_joins wsX8_joins) := goodIn_app (goodIn_of _ (by decide +kernel)) ggX8_groups_X8_joins
theorem dX8_groups_0 : decode cX8_groups 0 = .ok (.aload_n 0, 1) := by decide +kernel
theorem dX8_groups_1 : decode cX8_groups 1 = .ok (.invokevirtual 67, 3) := by decide +kernel
theorem dX8_groups_4 : decode cX8_groups 4 = .ok (.aload_n 0, 1) := by decide +kernel
theorem dX8_groups_5 : decode cX8_groups 5 = .ok (.getfield 7, 3) := by decide +kernel
theorem dX8_groups_8 : decode cX8_groups 8 = .ok (.istore_n 1, 1) := by decide +kernel
theorem dX8_groups_9 : decode cX8_groups 9 = .ok (.iconst 0, 1) := by decide +kernel
theorem dX8_groups_10 : decode cX8_groups 10 = .ok (.istore_n 2, 1) := by decide +kernel
theorem dX8_groups_11 : decode cX8_groups 11 = .ok (.iload_n 2, 1) := by decide +kernel
theorem dX8_groups_12 : decode cX8_groups 12 = .ok (.aload_n 0, 1) := by decide +kernel
theorem dX8_groups_13 : decode cX8_groups 13 = .ok (.getfield 61, 3) := by decide +kernel
theorem dX8_groups_16 : decode cX8_groups 16 = .ok (.if_icmp .ge 25, 3) := by decide +kernel
theorem dX8_groups_19 : decode cX8_groups 19 = .ok (.iload_n 1, 1) := by decide +kernel
theorem dX8_groups_20 : decode cX8_groups 20 = .ok (.aload_n 0, 1) := by decide +kernel
theorem dX8_groups_21 : decode cX8_groups 21 = .ok (.iload_n 2, 1) := by decide +kernel
theorem dX8_groups_22 : decode cX8_groups 22 = .ok (.invokevirtual 70, 3) := by decide +kernel
theorem dX8_groups_25 : decode cX8_groups 25 = .ok (.ifCond .eq 7, 3) := by decide +kernel
theorem dX8_groups_28 : decode cX8_groups 28 = .ok (.iconst 1, 1) := by decide +kernel
theorem dX8_groups_29 : decode cX8_groups 29 = .ok (.goto 4, 3) := by decide +kernel
theorem dX8_groups_32 : decode cX8_groups 32 = .ok (.iconst 0, 1) := by decide +kernel
theorem dX8_groups_33 : decode cX8_groups 33 = .ok (.isub, 1) := by decide +kernel
theorem dX8_groups_34 : decode cX8_groups 34 = .ok (.istore_n 1, 1) := by decide +kernel
theorem dX8_groups_35 : decode cX8_groups 35 = .ok (.iinc 2 1, 3) := by decide +kernel
theorem dX8_groups_38 : decode cX8_groups 38 = .ok (.goto (-27), 3) := by decide +kernel
theorem dX8_groups_41 : decode cX8_groups 41 = .ok (.iload_n 1, 1) := by decide +kernel
theorem dX8_groups_42 : decode cX8_groups 42 = .ok (.ireturn, 1) := by decide +kernel
set_option maxRecDepth 20000 in
theorem ggX8_dimension_X8_groups : GoodIn wsX8_dimension wsX8_groups := goodIn_r _ [7, 2, 1, 8, 9, 10, 6, 11, 12, 13, 14, 15, 16, 17, 18, 19, 20, 21, 22, 23, 24, 25, 26, 27, 28, 29, 30, 31, 32, 33, 34, 35, 36, 37, 38, 39, 40, 41, 42] (by decide +kernel) (by decide +kernel)
set_option maxRecDepth 20000 in
theorem gX8_dimension_X8_groups : GoodIn wsX8_dimension (wsV RX8 74 RX8 yX8_groups wsX8_groups) := goodIn_app (goodIn_of _ (by decide +kernel)) ggX8_dimension_X8_groups
theorem dX8_dimension_0 : decode cX8_dimension 0 = .ok (.aload_n 0, 1) := by decide +kernel
theorem dX8_dimension_1 : decode cX8_dimension 1 = .ok (.getfield 61, 3) := by decide +kernel
theorem dX8_dimension_4 : decode cX8_dimension 4 = .ok (.aload_n 0, 1) := by decide +kernel
theorem dX8_dimension_5 : decode cX8_dimension 5 = .ok (.getfield 7, 3) := by decide +kernel
theorem dX8_dimension_8 : decode cX8_dimension 8 = .ok (.isub, 1) := by decide +kernel
theorem dX8_dimension_9 : decode cX8_dimension 9 = .ok (.aload_n 0, 1) := by decide +kernel
theorem dX8_dimension_10 : decode cX8_dimension 10 = .ok (.invokevirtual 74, 3) := by decide +kernel
theorem dX8_dimension_13 : decode cX8_dimension 13 = .ok (.iadd, 1) := by decide +kernel
theorem dX8_dimension_14 : decode cX8_dimension 14 = .ok (.ireturn, 1) := by decide +kernel
set_option maxRecDepth 20000 in
theorem ggX8_reset_X8_throwing : GoodIn wsX8_reset wsX8_throwing := goodIn_r _ [7, 8, 9, 10, 11, 12, 13, 14, 15, 16, 17, 18, 19, 20, 21, 22, 23, 24, 25, 26, 27, 28] (by decide +kernel) (by decide +kernel)
set_option maxRecDepth 20000 in
theorem gX8_reset_X8_throwing : GoodIn wsX8_reset (wsV RX8 78 RX8 yX8_throwing wsX8_throwing) := goodIn_app (goodIn_of _ (by decide +kernel)) ggX8_reset_X8_throwing
theorem dX8_reset_0 : decode cX8_reset 0 = .ok (.aload_n 0, 1) := by decide +kernel
theorem dX8_reset_1 : decode cX8_reset 1 = .ok (.iload_n 1, 1) := by decide +kernel
theorem dX8_reset_2 : decode cX8_reset 2 = .ok (.iconst 1, 1) := by decide +kernel
theorem dX8_reset_3 : decode cX8_reset 3 = .ok (.if_icmp .lt 9, 3) := by decide +kernel
theorem dX8_reset_6 : decode cX8_reset 6 = .ok (.iload_n 1, 1) := by decide +kernel
theorem dX8_reset_7 : decode cX8_reset 7 = .ok (.bipush 16, 2) := by decide +kernel
theorem dX8_reset_9 : decode cX8_reset 9 = .ok (.if_icmp .le 7, 3) := by decide +kernel
theorem dX8_reset_12 : decode cX8_reset 12 = .ok (.iconst 1, 1) := by decide +kernel
theorem dX8_reset_13 : decode cX8_reset 13 = .ok (.goto 4, 3) := by decide +kernel
theorem dX8_reset_16 : decode cX8_reset 16 = .ok (.iconst 0, 1) := by decide +kernel
theorem dX8_reset_17 : decode cX8_reset 17 = .ok (.iconst 0, 1) := by decide +kernel
theorem dX8_reset_18 : decode cX8_reset 18 = .ok (.invokevirtual 78, 3) := by decide +kernel
theorem dX8_reset_21 : decode cX8_reset 21 = .ok (.ifCond .eq 5, 3) := by decide +kernel
theorem dX8_reset_24 : decode cX8_reset 24 = .ok (.iconst 0, 1) := by decide +kernel
theorem dX8_reset_25 : decode cX8_reset 25 = .ok (.ireturn, 1) := by decide +kernel
theorem dX8_reset_26 : decode cX8_reset 26 = .ok (.aload_n 0, 1) := by decide +kernel
theorem dX8_reset_27 : decode cX8_reset 27 = .ok (.getfield 61, 3) := by decide +kernel
theorem dX8_reset_30 : decode cX8_reset 30 = .ok (.istore_n 2, 1) := by decide +kernel
theorem dX8_reset_31 : decode cX8_reset 31 = .ok (.aload_n 0, 1) := by decide +kernel
theorem dX8_reset_32 : decode cX8_reset 32 = .ok (.iload_n 1, 1) := by decide +kernel
theorem dX8_reset_33 : decode cX8_reset 33 = .ok (.putfield 7, 3) := by decide +kernel
theorem dX8_reset_36 : decode cX8_reset 36 = .ok (.aload_n 0, 1) := by decide +kernel
theorem dX8_reset_37 : decode cX8_reset 37 = .ok (.iconst 0, 1) := by decide +kernel
theorem dX8_reset_38 : decode cX8_reset 38 = .ok (.putfield 61, 3) := by decide +kernel
theorem dX8_reset_41 : decode cX8_reset 41 = .ok (.iload_n 2, 1) := by decide +kernel
theorem dX8_reset_42 : decode cX8_reset 42 = .ok (.ireturn, 1) := by decide +kernel
set_option maxRecDepth 20000 in
theorem ggX8_edge_X8_isVertex : GoodIn wsX8_edge wsX8_isVertex := goodIn_r _ [11, 12, 38, 39, 40, 41, 42, 43, 44, 45, 46, 47, 48, 49, 50, 51, 52, 53, 54, 55, 56, 57] (by decide +kernel) (by decide +kernel)
set_option maxRecDepth 20000 in
theorem gX8_edge_X8_isVertex : GoodIn wsX8_edge (wsV RX8 82 RX8 yX8_isVertex wsX8_isVertex) := goodIn_app (goodIn_of _ (by decide +kernel)) ggX8_edge_X8_isVertex
set_option maxRecDepth 20000 in
theorem ggX8_edge_X8_dimension : GoodIn wsX8_edge wsX8_dimension := goodIn_r _ [16, 2, 12, 17, 18, 19, 10, 20, 21, 22, 23, 24, 25, 3, 26, 27, 28, 29, 30, 4, 5, 31, 32, 38, 39, 40, 41, 42, 43, 44, 45, 46, 47, 48, 49, 50, 51, 52, 53, 54, 55, 56, 57] (by decide +kernel) (by decide +kernel)
set_option maxRecDepth 20000 in
theorem gX8_edge_X8_dimension : GoodIn wsX8_edge (wsV RX8 86 RX8 yX8_dimension wsX8_dimension) := goodIn_app (goodIn_of _ (by decide +kernel)) ggX8_edge_X8_dimension
set_option maxRecDepth 20000 in
theorem ggX8_edge_X8_throwing : GoodIn wsX8_edge wsX8_throwing := goodIn_r _ [36, 37, 38, 39, 40, 41, 42, 43, 44, 45, 46, 47, 48, 49, 50, 51, 52, 53, 54, 55, 56, 57] (by decide +kernel) (by decide +kernel)
set_option maxRecDepth 20000 in
theorem gX8_edge_X8_throwing : GoodIn wsX8_edge (wsV RX8 78 RX8 yX8_throwing wsX8_throwing) := goodIn_app (goodIn_of _ (by decide +kernel)) ggX8_edge_X8_throwing
theorem dX8_edge_0 : decode cX8_edge 0 = .ok (.aload_n 0, 1) := by decide +kernel
theorem dX8_edge_1 : decode cX8_edge 1 = .ok (.iload_n 1, 1) := by decide +kernel
theorem dX8_edge_2 : decode cX8_edge 2 = .ok (.invokevirtual 82, 3) := by decide +kernel
theorem dX8_edge_5 : decode cX8_edge 5 = .ok (.ifCond .eq 21, 3) := by decide +kernel
theorem dX8_edge_8 : decode cX8_edge 8 = .ok (.aload_n 0, 1) := by decide +kernel
theorem dX8_edge_9 : decode cX8_edge 9 = .ok (.iload_n 2, 1) := by decide +kernel
theorem dX8_edge_10 : decode cX8_edge 10 = .ok (.invokevirtual 82, 3) := by decide +kernel
theorem dX8_edge_13 : decode cX8_edge 13 = .ok (.ifCond .eq 13, 3) := by decide +kernel
theorem dX8_edge_16 : decode cX8_edge 16 = .ok (.iload_n 3, 1) := by decide +kernel
theorem dX8_edge_17 : decode cX8_edge 17 = .ok (.ifCond .lt 9, 3) := by decide +kernel
theorem dX8_edge_20 : decode cX8_edge 20 = .ok (.iload_n 3, 1) := by decide +kernel
theorem dX8_edge_21 : decode cX8_edge 21 = .ok (.ldc 85, 2) := by decide +kernel
theorem dX8_edge_23 : decode cX8_edge 23 = .ok (.if_icmp .le 7, 3) := by decide +kernel
theorem dX8_edge_26 : decode cX8_edge 26 = .ok (.iconst 1, 1) := by decide +kernel
theorem dX8_edge_27 : decode cX8_edge 27 = .ok (.goto 4, 3) := by decide +kernel
theorem dX8_edge_30 : decode cX8_edge 30 = .ok (.iconst 0, 1) := by decide +kernel
theorem dX8_edge_31 : decode cX8_edge 31 = .ok (.istore 4, 2) := by decide +kernel
theorem dX8_edge_33 : decode cX8_edge 33 = .ok (.iconst 0, 1) := by decide +kernel
theorem dX8_edge_34 : decode cX8_edge 34 = .ok (.istore 5, 2) := by decide +kernel
theorem dX8_edge_36 : decode cX8_edge 36 = .ok (.iload 4, 2) := by decide +kernel
theorem dX8_edge_38 : decode cX8_edge 38 = .ok (.ifCond .ne 47, 3) := by decide +kernel
theorem dX8_edge_41 : decode cX8_edge 41 = .ok (.aload_n 0, 1) := by decide +kernel
theorem dX8_edge_42 : decode cX8_edge 42 = .ok (.invokevirtual 86, 3) := by decide +kernel
theorem dX8_edge_45 : decode cX8_edge 45 = .ok (.istore 6, 2) := by decide +kernel
theorem dX8_edge_47 : decode cX8_edge 47 = .ok (.aload_n 0, 1) := by decide +kernel
theorem dX8_edge_48 : decode cX8_edge 48 = .ok (.getfield 61, 3) := by decide +kernel
theorem dX8_edge_51 : decode cX8_edge 51 = .ok (.bipush 40, 2) := by decide +kernel
theorem dX8_edge_53 : decode cX8_edge 53 = .ok (.if_icmp .eq 25, 3) := by decide +kernel
theorem dX8_edge_56 : decode cX8_edge 56 = .ok (.iload 6, 2) := by decide +kernel
theorem dX8_edge_58 : decode cX8_edge 58 = .ok (.bipush 14, 2) := by decide +kernel
theorem dX8_edge_60 : decode cX8_edge 60 = .ok (.if_icmp .ne 22, 3) := by decide +kernel
theorem dX8_edge_63 : decode cX8_edge 63 = .ok (.aload_n 0, 1) := by decide +kernel
theorem dX8_edge_64 : decode cX8_edge 64 = .ok (.getfield 27, 3) := by decide +kernel
theorem dX8_edge_67 : decode cX8_edge 67 = .ok (.iload_n 1, 1) := by decide +kernel
theorem dX8_edge_68 : decode cX8_edge 68 = .ok (.iaload, 1) := by decide +kernel
theorem dX8_edge_69 : decode cX8_edge 69 = .ok (.aload_n 0, 1) := by decide +kernel
theorem dX8_edge_70 : decode cX8_edge 70 = .ok (.getfield 27, 3) := by decide +kernel
theorem dX8_edge_73 : decode cX8_edge 73 = .ok (.iload_n 2, 1) := by decide +kernel
theorem dX8_edge_74 : decode cX8_edge 74 = .ok (.iaload, 1) := by decide +kernel
theorem dX8_edge_75 : decode cX8_edge 75 = .ok (.if_icmp .ne 7, 3) := by decide +kernel
theorem dX8_edge_78 : decode cX8_edge 78 = .ok (.iconst 1, 1) := by decide +kernel
theorem dX8_edge_79 : decode cX8_edge 79 = .ok (.goto 4, 3) := by decide +kernel
theorem dX8_edge_82 : decode cX8_edge 82 = .ok (.iconst 0, 1) := by decide +kernel
theorem dX8_edge_83 : decode cX8_edge 83 = .ok (.istore 5, 2) := by decide +kernel
theorem dX8_edge_85 : decode cX8_edge 85 = .ok (.aload_n 0, 1) := by decide +kernel
theorem dX8_edge_86 : decode cX8_edge 86 = .ok (.iload 4, 2) := by decide +kernel
theorem dX8_edge_88 : decode cX8_edge 88 = .ok (.iload 5, 2) := by decide +kernel
theorem dX8_edge_90 : decode cX8_edge 90 = .ok (.invokevirtual 78, 3) := by decide +kernel
theorem dX8_edge_93 : decode cX8_edge 93 = .ok (.ifCond .eq 5, 3) := by decide +kernel
theorem dX8_edge_96 : decode cX8_edge 96 = .ok (.iconst 0, 1) := by decide +kernel
theorem dX8_edge_97 : decode cX8_edge 97 = .ok (.ireturn, 1) := by decide +kernel
theorem dX8_edge_98 : decode cX8_edge 98 = .ok (.aload_n 0, 1) := by decide +kernel
theorem dX8_edge_99 : decode cX8_edge 99 = .ok (.getfield 13, 3) := by decide +kernel
theorem dX8_edge_102 : decode cX8_edge 102 = .ok (.aload_n 0, 1) := by decide +kernel
theorem dX8_edge_103 : decode cX8_edge 103 = .ok (.getfield 61, 3) := by decide +kernel
theorem dX8_edge_106 : decode cX8_edge 106 = .ok (.iload_n 1, 1) := by decide +kernel
theorem dX8_edge_107 : decode cX8_edge 107 = .ok (.iastore, 1) := by decide +kernel
theorem dX8_edge_108 : decode cX8_edge 108 = .ok (.aload_n 0, 1) := by decide +kernel
theorem dX8_edge_109 : decode cX8_edge 109 = .ok (.getfield 17, 3) := by decide +kernel
theorem dX8_edge_112 : decode cX8_edge 112 = .ok (.aload_n 0, 1) := by decide +kernel
theorem dX8_edge_113 : decode cX8_edge 113 = .ok (.getfield 61, 3) := by decide +kernel
theorem dX8_edge_116 : decode cX8_edge 116 = .ok (.iload_n 2, 1) := by decide +kernel
theorem dX8_edge_117 : decode cX8_edge 117 = .ok (.iastore, 1) := by decide +kernel
theorem dX8_edge_118 : decode cX8_edge 118 = .ok (.aload_n 0, 1) := by decide +kernel
theorem dX8_edge_119 : decode cX8_edge 119 = .ok (.getfield 20, 3) := by decide +kernel
theorem dX8_edge_122 : decode cX8_edge 122 = .ok (.aload_n 0, 1) := by decide +kernel
theorem dX8_edge_123 : decode cX8_edge 123 = .ok (.getfield 61, 3) := by decide +kernel
theorem dX8_edge_126 : decode cX8_edge 126 = .ok (.iload_n 3, 1) := by decide +kernel
theorem dX8_edge_127 : decode cX8_edge 127 = .ok (.iastore, 1) := by decide +kernel
theorem dX8_edge_128 : decode cX8_edge 128 = .ok (.aload_n 0, 1) := by decide +kernel
theorem dX8_edge_129 : decode cX8_edge 129 = .ok (.dup, 1) := by decide +kernel
theorem dX8_edge_130 : decode cX8_edge 130 = .ok (.getfield 61, 3) := by decide +kernel
theorem dX8_edge_133 : decode cX8_edge 133 = .ok (.iconst 1, 1) := by decide +kernel
theorem dX8_edge_134 : decode cX8_edge 134 = .ok (.iadd, 1) := by decide +kernel
theorem dX8_edge_135 : decode cX8_edge 135 = .ok (.putfield 61, 3) := by decide +kernel
theorem dX8_edge_138 : decode cX8_edge 138 = .ok (.aload_n 0, 1) := by decide +kernel
theorem dX8_edge_139 : decode cX8_edge 139 = .ok (.getfield 61, 3) := by decide +kernel
theorem dX8_edge_142 : decode cX8_edge 142 = .ok (.iconst 1, 1) := by decide +kernel
theorem dX8_edge_143 : decode cX8_edge 143 = .ok (.isub, 1) := by decide +kernel
theorem dX8_edge_144 : decode cX8_edge 144 = .ok (.ireturn, 1) := by decide +kernel
set_option maxRecDepth 20000 in
theorem ggX8_drop_X8_throwing : GoodIn wsX8_drop wsX8_throwing := goodIn_r _ [6, 7, 8, 9, 10, 11, 12, 13, 14, 15, 16, 17, 18, 19, 20, 21, 22, 23, 24, 25, 26, 27] (by decide +kernel) (by decide +kernel)
set_option maxRecDepth 20000 in
theorem gX8_drop_X8_throwing : GoodIn wsX8_drop (wsV RX8 78 RX8 yX8_throwing wsX8_throwing) := goodIn_app (goodIn_of _ (by decide +kernel)) ggX8_drop_X8_throwing
theorem dX8_drop_0 : decode cX8_drop 0 = .ok (.aload_n 0, 1) := by decide +kernel
theorem dX8_drop_1 : decode cX8_drop 1 = .ok (.aload_n 0, 1) := by decide +kernel
theorem dX8_drop_2 : decode cX8_drop 2 = .ok (.getfield 61, 3) := by decide +kernel
theorem dX8_drop_5 : decode cX8_drop 5 = .ok (.ifCond .ne 7, 3) := by decide +kernel
theorem dX8_drop_8 : decode cX8_drop 8 = .ok (.iconst 1, 1) := by decide +kernel
theorem dX8_drop_9 : decode cX8_drop 9 = .ok (.goto 4, 3) := by decide +kernel
theorem dX8_drop_12 : decode cX8_drop 12 = .ok (.iconst 0, 1) := by decide +kernel
theorem dX8_drop_13 : decode cX8_drop 13 = .ok (.iconst 0, 1) := by decide +kernel
theorem dX8_drop_14 : decode cX8_drop 14 = .ok (.invokevirtual 78, 3) := by decide +kernel
theorem dX8_drop_17 : decode cX8_drop 17 = .ok (.ifCond .eq 5, 3) := by decide +kernel
theorem dX8_drop_20 : decode cX8_drop 20 = .ok (.iconst 0, 1) := by decide +kernel
theorem dX8_drop_21 : decode cX8_drop 21 = .ok (.ireturn, 1) := by decide +kernel
theorem dX8_drop_22 : decode cX8_drop 22 = .ok (.aload_n 0, 1) := by decide +kernel
theorem dX8_drop_23 : decode cX8_drop 23 = .ok (.dup, 1) := by decide +kernel
theorem dX8_drop_24 : decode cX8_drop 24 = .ok (.getfield 61, 3) := by decide +kernel
theorem dX8_drop_27 : decode cX8_drop 27 = .ok (.iconst 1, 1) := by decide +kernel
theorem dX8_drop_28 : decode cX8_drop 28 = .ok (.isub, 1) := by decide +kernel
theorem dX8_drop_29 : decode cX8_drop 29 = .ok (.putfield 61, 3) := by decide +kernel
theorem dX8_drop_32 : decode cX8_drop 32 = .ok (.aload_n 0, 1) := by decide +kernel
theorem dX8_drop_33 : decode cX8_drop 33 = .ok (.getfield 61, 3) := by decide +kernel
theorem dX8_drop_36 : decode cX8_drop 36 = .ok (.ireturn, 1) := by decide +kernel
theorem dX8_weightOf_0 : decode cX8_weightOf 0 = .ok (.lconst 0, 1) := by decide +kernel
theorem dX8_weightOf_1 : decode cX8_weightOf 1 = .ok (.lstore_n 3, 1) := by decide +kernel
theorem dX8_weightOf_2 : decode cX8_weightOf 2 = .ok (.iconst 0, 1) := by decide +kernel
theorem dX8_weightOf_3 : decode cX8_weightOf 3 = .ok (.istore 5, 2) := by decide +kernel
theorem dX8_weightOf_5 : decode cX8_weightOf 5 = .ok (.iload 5, 2) := by decide +kernel
theorem dX8_weightOf_7 : decode cX8_weightOf 7 = .ok (.aload_n 0, 1) := by decide +kernel
theorem dX8_weightOf_8 : decode cX8_weightOf 8 = .ok (.getfield 61, 3) := by decide +kernel
theorem dX8_weightOf_11 : decode cX8_weightOf 11 = .ok (.if_icmp .ge 31, 3) := by decide +kernel
theorem dX8_weightOf_14 : decode cX8_weightOf 14 = .ok (.lload_n 1, 1) := by decide +kernel
theorem dX8_weightOf_15 : decode cX8_weightOf 15 = .ok (.iload 5, 2) := by decide +kernel
theorem dX8_weightOf_17 : decode cX8_weightOf 17 = .ok (.lshr, 1) := by decide +kernel
theorem dX8_weightOf_18 : decode cX8_weightOf 18 = .ok (.lconst 1, 1) := by decide +kernel
theorem dX8_weightOf_19 : decode cX8_weightOf 19 = .ok (.land, 1) := by decide +kernel
theorem dX8_weightOf_20 : decode cX8_weightOf 20 = .ok (.lconst 1, 1) := by decide +kernel
theorem dX8_weightOf_21 : decode cX8_weightOf 21 = .ok (.lcmp, 1) := by decide +kernel
theorem dX8_weightOf_22 : decode cX8_weightOf 22 = .ok (.ifCond .ne 14, 3) := by decide +kernel
theorem dX8_weightOf_25 : decode cX8_weightOf 25 = .ok (.lload_n 3, 1) := by decide +kernel
theorem dX8_weightOf_26 : decode cX8_weightOf 26 = .ok (.aload_n 0, 1) := by decide +kernel
theorem dX8_weightOf_27 : decode cX8_weightOf 27 = .ok (.getfield 20, 3) := by decide +kernel
theorem dX8_weightOf_30 : decode cX8_weightOf 30 = .ok (.iload 5, 2) := by decide +kernel
theorem dX8_weightOf_32 : decode cX8_weightOf 32 = .ok (.iaload, 1) := by decide +kernel
theorem dX8_weightOf_33 : decode cX8_weightOf 33 = .ok (.i2l, 1) := by decide +kernel
theorem dX8_weightOf_34 : decode cX8_weightOf 34 = .ok (.ladd, 1) := by decide +kernel
theorem dX8_weightOf_35 : decode cX8_weightOf 35 = .ok (.lstore_n 3, 1) := by decide +kernel
theorem dX8_weightOf_36 : decode cX8_weightOf 36 = .ok (.iinc 5 1, 3) := by decide +kernel
theorem dX8_weightOf_39 : decode cX8_weightOf 39 = .ok (.goto (-34), 3) := by decide +kernel
theorem dX8_weightOf_42 : decode cX8_weightOf 42 = .ok (.lload_n 3, 1) := by decide +kernel
theorem dX8_weightOf_43 : decode cX8_weightOf 43 = .ok (.lreturn, 1) := by decide +kernel
set_option maxRecDepth 20000 in
theorem ggX8_beginsWith_X8_beginGroups : GoodIn wsX8_beginsWith wsX8_beginGroups := goodIn_r _ [6, 7, 8, 9, 19, 20, 21, 22, 23, 24, 25, 26, 27, 28, 29, 30, 31, 32, 33, 34, 35, 36, 37, 38] (by decide +kernel) (by decide +kernel)
set_option maxRecDepth 20000 in
theorem gX8_beginsWith_X8_beginGroups : GoodIn wsX8_beginsWith (wsV RX8 67 RX8 yX8_beginGroups wsX8_beginGroups) := goodIn_app (goodIn_of _ (by decide +kernel)) ggX8_beginsWith_X8_beginGroups
set_option maxRecDepth 20000 in
theorem ggX8_beginsWith_X8_joins : GoodIn wsX8_beginsWith wsX8_joins := goodIn_r _ [13, 14, 15, 8, 16, 7, 9, 17, 18, 19, 20, 21, 22, 23, 24, 25, 26, 27, 28, 29, 30, 31, 32, 33, 34, 35, 36, 37, 38] (by decide +kernel) (by decide +kernel)
set_option maxRecDepth 20000 in
theorem gX8_beginsWith_X8_joins : GoodIn wsX8_beginsWith (wsV RX8 70 RX8 yX8_joins wsX8_joins) := goodIn_app (goodIn_of _ (by decide +kernel)) ggX8_beginsWith_X8_joins
theorem dX8_beginsWith_0 : decode cX8_beginsWith 0 = .ok (.aload_n 0, 1) := by decide +kernel
theorem dX8_beginsWith_1 : decode cX8_beginsWith 1 = .ok (.invokevirtual 67, 3) := by decide +kernel
theorem dX8_beginsWith_4 : decode cX8_beginsWith 4 = .ok (.iconst 1, 1) := by decide +kernel
theorem dX8_beginsWith_5 : decode cX8_beginsWith 5 = .ok (.istore_n 3, 1) := by decide +kernel
theorem dX8_beginsWith_6 : decode cX8_beginsWith 6 = .ok (.iconst 0, 1) := by decide +kernel
theorem dX8_beginsWith_7 : decode cX8_beginsWith 7 = .ok (.istore 4, 2) := by decide +kernel
theorem dX8_beginsWith_9 : decode cX8_beginsWith 9 = .ok (.iload 4, 2) := by decide +kernel
theorem dX8_beginsWith_11 : decode cX8_beginsWith 11 = .ok (.aload_n 0, 1) := by decide +kernel
theorem dX8_beginsWith_12 : decode cX8_beginsWith 12 = .ok (.getfield 61, 3) := by decide +kernel
theorem dX8_beginsWith_15 : decode cX8_beginsWith 15 = .ok (.if_icmp .ge 39, 3) := by decide +kernel
theorem dX8_beginsWith_18 : decode cX8_beginsWith 18 = .ok (.lload_n 1, 1) := by decide +kernel
theorem dX8_beginsWith_19 : decode cX8_beginsWith 19 = .ok (.iload 4, 2) := by decide +kernel
theorem dX8_beginsWith_21 : decode cX8_beginsWith 21 = .ok (.lshr, 1) := by decide +kernel
theorem dX8_beginsWith_22 : decode cX8_beginsWith 22 = .ok (.lconst 1, 1) := by decide +kernel
theorem dX8_beginsWith_23 : decode cX8_beginsWith 23 = .ok (.land, 1) := by decide +kernel
theorem dX8_beginsWith_24 : decode cX8_beginsWith 24 = .ok (.lconst 1, 1) := by decide +kernel
theorem dX8_beginsWith_25 : decode cX8_beginsWith 25 = .ok (.lcmp, 1) := by decide +kernel
theorem dX8_beginsWith_26 : decode cX8_beginsWith 26 = .ok (.ifCond .ne 22, 3) := by decide +kernel
theorem dX8_beginsWith_29 : decode cX8_beginsWith 29 = .ok (.aload_n 0, 1) := by decide +kernel
theorem dX8_beginsWith_30 : decode cX8_beginsWith 30 = .ok (.iload 4, 2) := by decide +kernel
theorem dX8_beginsWith_32 : decode cX8_beginsWith 32 = .ok (.invokevirtual 70, 3) := by decide +kernel
theorem dX8_beginsWith_35 : decode cX8_beginsWith 35 = .ok (.ifCond .eq 11, 3) := by decide +kernel
theorem dX8_beginsWith_38 : decode cX8_beginsWith 38 = .ok (.iload_n 3, 1) := by decide +kernel
theorem dX8_beginsWith_39 : decode cX8_beginsWith 39 = .ok (.ifCond .eq 7, 3) := by decide +kernel
theorem dX8_beginsWith_42 : decode cX8_beginsWith 42 = .ok (.iconst 1, 1) := by decide +kernel
theorem dX8_beginsWith_43 : decode cX8_beginsWith 43 = .ok (.goto 4, 3) := by decide +kernel
theorem dX8_beginsWith_46 : decode cX8_beginsWith 46 = .ok (.iconst 0, 1) := by decide +kernel
theorem dX8_beginsWith_47 : decode cX8_beginsWith 47 = .ok (.istore_n 3, 1) := by decide +kernel
theorem dX8_beginsWith_48 : decode cX8_beginsWith 48 = .ok (.iinc 4 1, 3) := by decide +kernel
theorem dX8_beginsWith_51 : decode cX8_beginsWith 51 = .ok (.goto (-42), 3) := by decide +kernel
theorem dX8_beginsWith_54 : decode cX8_beginsWith 54 = .ok (.iload_n 3, 1) := by decide +kernel
theorem dX8_beginsWith_55 : decode cX8_beginsWith 55 = .ok (.ireturn, 1) := by decide +kernel
set_option maxRecDepth 20000 in
theorem ggX8_forests_X8_isSet : GoodIn wsX8_forests wsX8_isSet := goodIn_r _ [12, 5, 51, 52, 53, 54, 55, 56, 57, 58, 59, 60, 61, 62, 63, 64, 65, 66, 67, 68, 69, 70] (by decide +kernel) (by decide +kernel)
set_option maxRecDepth 20000 in
theorem gX8_forests_X8_isSet : GoodIn wsX8_forests (wsV RX8 89 RX8 yX8_isSet wsX8_isSet) := goodIn_app (goodIn_of _ (by decide +kernel)) ggX8_forests_X8_isSet
set_option maxRecDepth 20000 in
theorem ggX8_forests_X8_throwing : GoodIn wsX8_forests wsX8_throwing := goodIn_r _ [16, 17, 51, 52, 53, 54, 55, 56, 57, 58, 59, 60, 61, 62, 63, 64, 65, 66, 67, 68, 69, 70] (by decide +kernel) (by decide +kernel)
set_option maxRecDepth 20000 in
theorem gX8_forests_X8_throwing : GoodIn wsX8_forests (wsV RX8 78 RX8 yX8_throwing wsX8_throwing) := goodIn_app (goodIn_of _ (by decide +kernel)) ggX8_forests_X8_throwing
set_option maxRecDepth 20000 in
theorem ggX8_forests_X8_beginsWith : GoodIn wsX8_forests wsX8_beginsWith := goodIn_r _ [21, 5, 22, 23, 24, 11, 25, 26, 3, 27, 28, 29, 30, 31, 6, 7, 32, 33, 1, 51, 52, 53, 54, 55, 56, 57, 58, 59, 60, 61, 62, 63, 64, 65, 66, 67, 68, 69, 70] (by decide +kernel) (by decide +kernel)
set_option maxRecDepth 20000 in
theorem gX8_forests_X8_beginsWith : GoodIn wsX8_forests (wsV RX8 93 RX8 yX8_beginsWith wsX8_beginsWith) := goodIn_app (goodIn_of _ (by decide +kernel)) ggX8_forests_X8_beginsWith
set_option maxRecDepth 20000 in
theorem ggX8_forests_X8_isFirst : GoodIn wsX8_forests wsX8_isFirst := goodIn_r _ [37, 3, 38, 39, 40, 11, 41, 1, 42, 5, 6, 7, 51, 52, 53, 54, 55, 56, 57, 58, 59, 60, 61, 62, 63, 64, 65, 66, 67, 68, 69, 70] (by decide +kernel) (by decide +kernel)
set_option maxRecDepth 20000 in
theorem gX8_forests_X8_isFirst : GoodIn wsX8_forests (wsV RX8 96 RX8 yX8_isFirst wsX8_isFirst) := goodIn_app (goodIn_of _ (by decide +kernel)) ggX8_forests_X8_isFirst
set_option maxRecDepth 20000 in
theorem ggX8_forests_X8_lay : GoodIn wsX8_forests wsX8_lay := goodIn_r _ [46, 4, 51, 52, 53, 54, 55, 56, 57, 58, 59, 60, 61, 62, 63, 64, 65, 66, 67, 68, 69, 70] (by decide +kernel) (by decide +kernel)
set_option maxRecDepth 20000 in
theorem gX8_forests_X8_lay : GoodIn wsX8_forests (wsV RX8 99 RX8 yX8_lay wsX8_lay) := goodIn_app (goodIn_of _ (by decide +kernel)) ggX8_forests_X8_lay
set_option maxRecDepth 20000 in
theorem ggX8_forests_X8_determinant : GoodIn wsX8_forests wsX8_determinant := goodIn_r _ [50, 4, 51, 52, 53, 54, 55, 56, 57, 58, 59, 60, 61, 62, 63, 64, 65, 66, 67, 68, 69, 70] (by decide +kernel) (by decide +kernel)
set_option maxRecDepth 20000 in
theorem gX8_forests_X8_determinant : GoodIn wsX8_forests (wsV RX8 103 RX8 yX8_determinant wsX8_determinant) := goodIn_app (goodIn_of _ (by decide +kernel)) ggX8_forests_X8_determinant
theorem dX8_forests_0 : decode cX8_forests 0 = .ok (.aload_n 0, 1) := by decide +kernel
theorem dX8_forests_1 : decode cX8_forests 1 = .ok (.aload_n 0, 1) := by decide +kernel
theorem dX8_forests_2 : decode cX8_forests 2 = .ok (.lload_n 1, 1) := by decide +kernel
theorem dX8_forests_3 : decode cX8_forests 3 = .ok (.invokevirtual 89, 3) := by decide +kernel
theorem dX8_forests_6 : decode cX8_forests 6 = .ok (.ifCond .ne 7, 3) := by decide +kernel
theorem dX8_forests_9 : decode cX8_forests 9 = .ok (.iconst 1, 1) := by decide +kernel
theorem dX8_forests_10 : decode cX8_forests 10 = .ok (.goto 4, 3) := by decide +kernel
theorem dX8_forests_13 : decode cX8_forests 13 = .ok (.iconst 0, 1) := by decide +kernel
theorem dX8_forests_14 : decode cX8_forests 14 = .ok (.iconst 0, 1) := by decide +kernel
theorem dX8_forests_15 : decode cX8_forests 15 = .ok (.invokevirtual 78, 3) := by decide +kernel
theorem dX8_forests_18 : decode cX8_forests 18 = .ok (.ifCond .eq 5, 3) := by decide +kernel
theorem dX8_forests_21 : decode cX8_forests 21 = .ok (.lconst 0, 1) := by decide +kernel
theorem dX8_forests_22 : decode cX8_forests 22 = .ok (.lreturn, 1) := by decide +kernel
theorem dX8_forests_23 : decode cX8_forests 23 = .ok (.aload_n 0, 1) := by decide +kernel
theorem dX8_forests_24 : decode cX8_forests 24 = .ok (.lload_n 1, 1) := by decide +kernel
theorem dX8_forests_25 : decode cX8_forests 25 = .ok (.invokevirtual 93, 3) := by decide +kernel
theorem dX8_forests_28 : decode cX8_forests 28 = .ok (.ifCond .ne 5, 3) := by decide +kernel
theorem dX8_forests_31 : decode cX8_forests 31 = .ok (.lconst 0, 1) := by decide +kernel
theorem dX8_forests_32 : decode cX8_forests 32 = .ok (.lreturn, 1) := by decide +kernel
theorem dX8_forests_33 : decode cX8_forests 33 = .ok (.iconst 0, 1) := by decide +kernel
theorem dX8_forests_34 : decode cX8_forests 34 = .ok (.istore_n 3, 1) := by decide +kernel
theorem dX8_forests_35 : decode cX8_forests 35 = .ok (.iconst 0, 1) := by decide +kernel
theorem dX8_forests_36 : decode cX8_forests 36 = .ok (.istore 4, 2) := by decide +kernel
theorem dX8_forests_38 : decode cX8_forests 38 = .ok (.iload 4, 2) := by decide +kernel
theorem dX8_forests_40 : decode cX8_forests 40 = .ok (.aload_n 0, 1) := by decide +kernel
theorem dX8_forests_41 : decode cX8_forests 41 = .ok (.getfield 7, 3) := by decide +kernel
theorem dX8_forests_44 : decode cX8_forests 44 = .ok (.if_icmp .ge 70, 3) := by decide +kernel
theorem dX8_forests_47 : decode cX8_forests 47 = .ok (.aload_n 0, 1) := by decide +kernel
theorem dX8_forests_48 : decode cX8_forests 48 = .ok (.getfield 51, 3) := by decide +kernel
theorem dX8_forests_51 : decode cX8_forests 51 = .ok (.iload 4, 2) := by decide +kernel
theorem dX8_forests_53 : decode cX8_forests 53 = .ok (.iconst (-1), 1) := by decide +kernel
theorem dX8_forests_54 : decode cX8_forests 54 = .ok (.iastore, 1) := by decide +kernel
theorem dX8_forests_55 : decode cX8_forests 55 = .ok (.aload_n 0, 1) := by decide +kernel
theorem dX8_forests_56 : decode cX8_forests 56 = .ok (.getfield 27, 3) := by decide +kernel
theorem dX8_forests_59 : decode cX8_forests 59 = .ok (.iload 4, 2) := by decide +kernel
theorem dX8_forests_61 : decode cX8_forests 61 = .ok (.iaload, 1) := by decide +kernel
theorem dX8_forests_62 : decode cX8_forests 62 = .ok (.iload 4, 2) := by decide +kernel
theorem dX8_forests_64 : decode cX8_forests 64 = .ok (.if_icmp .eq 6, 3) := by decide +kernel
theorem dX8_forests_67 : decode cX8_forests 67 = .ok (.goto 41, 3) := by decide +kernel
theorem dX8_forests_70 : decode cX8_forests 70 = .ok (.aload_n 0, 1) := by decide +kernel
theorem dX8_forests_71 : decode cX8_forests 71 = .ok (.getfield 51, 3) := by decide +kernel
theorem dX8_forests_74 : decode cX8_forests 74 = .ok (.iload 4, 2) := by decide +kernel
theorem dX8_forests_76 : decode cX8_forests 76 = .ok (.aload_n 0, 1) := by decide +kernel
theorem dX8_forests_77 : decode cX8_forests 77 = .ok (.iload 4, 2) := by decide +kernel
theorem dX8_forests_79 : decode cX8_forests 79 = .ok (.invokevirtual 96, 3) := by decide +kernel
theorem dX8_forests_82 : decode cX8_forests 82 = .ok (.ifCond .eq 7, 3) := by decide +kernel
theorem dX8_forests_85 : decode cX8_forests 85 = .ok (.iconst (-1), 1) := by decide +kernel
theorem dX8_forests_86 : decode cX8_forests 86 = .ok (.goto 4, 3) := by decide +kernel
theorem dX8_forests_89 : decode cX8_forests 89 = .ok (.iload_n 3, 1) := by decide +kernel
theorem dX8_forests_90 : decode cX8_forests 90 = .ok (.iastore, 1) := by decide +kernel
theorem dX8_forests_91 : decode cX8_forests 91 = .ok (.iload_n 3, 1) := by decide +kernel
theorem dX8_forests_92 : decode cX8_forests 92 = .ok (.aload_n 0, 1) := by decide +kernel
theorem dX8_forests_93 : decode cX8_forests 93 = .ok (.iload 4, 2) := by decide +kernel
theorem dX8_forests_95 : decode cX8_forests 95 = .ok (.invokevirtual 96, 3) := by decide +kernel
theorem dX8_forests_98 : decode cX8_forests 98 = .ok (.ifCond .eq 7, 3) := by decide +kernel
theorem dX8_forests_101 : decode cX8_forests 101 = .ok (.iconst 0, 1) := by decide +kernel
theorem dX8_forests_102 : decode cX8_forests 102 = .ok (.goto 4, 3) := by decide +kernel
theorem dX8_forests_105 : decode cX8_forests 105 = .ok (.iconst 1, 1) := by decide +kernel
theorem dX8_forests_106 : decode cX8_forests 106 = .ok (.iadd, 1) := by decide +kernel
theorem dX8_forests_107 : decode cX8_forests 107 = .ok (.istore_n 3, 1) := by decide +kernel
theorem dX8_forests_108 : decode cX8_forests 108 = .ok (.iinc 4 1, 3) := by decide +kernel
theorem dX8_forests_111 : decode cX8_forests 111 = .ok (.goto (-73), 3) := by decide +kernel
theorem dX8_forests_114 : decode cX8_forests 114 = .ok (.iconst 0, 1) := by decide +kernel
theorem dX8_forests_115 : decode cX8_forests 115 = .ok (.istore 4, 2) := by decide +kernel
theorem dX8_forests_117 : decode cX8_forests 117 = .ok (.iload 4, 2) := by decide +kernel
theorem dX8_forests_119 : decode cX8_forests 119 = .ok (.sipush 256, 3) := by decide +kernel
theorem dX8_forests_122 : decode cX8_forests 122 = .ok (.if_icmp .ge 17, 3) := by decide +kernel
theorem dX8_forests_125 : decode cX8_forests 125 = .ok (.aload_n 0, 1) := by decide +kernel
theorem dX8_forests_126 : decode cX8_forests 126 = .ok (.getfield 48, 3) := by decide +kernel
theorem dX8_forests_129 : decode cX8_forests 129 = .ok (.iload 4, 2) := by decide +kernel
theorem dX8_forests_131 : decode cX8_forests 131 = .ok (.lconst 0, 1) := by decide +kernel
theorem dX8_forests_132 : decode cX8_forests 132 = .ok (.lastore, 1) := by decide +kernel
theorem dX8_forests_133 : decode cX8_forests 133 = .ok (.iinc 4 1, 3) := by decide +kernel
theorem dX8_forests_136 : decode cX8_forests 136 = .ok (.goto (-19), 3) := by decide +kernel
theorem dX8_forests_139 : decode cX8_forests 139 = .ok (.iconst 0, 1) := by decide +kernel
theorem dX8_forests_140 : decode cX8_forests 140 = .ok (.istore 4, 2) := by decide +kernel
theorem dX8_forests_142 : decode cX8_forests 142 = .ok (.iload 4, 2) := by decide +kernel
theorem dX8_forests_144 : decode cX8_forests 144 = .ok (.aload_n 0, 1) := by decide +kernel
theorem dX8_forests_145 : decode cX8_forests 145 = .ok (.getfield 61, 3) := by decide +kernel
theorem dX8_forests_148 : decode cX8_forests 148 = .ok (.if_icmp .ge 65, 3) := by decide +kernel
theorem dX8_forests_151 : decode cX8_forests 151 = .ok (.aload_n 0, 1) := by decide +kernel
theorem dX8_forests_152 : decode cX8_forests 152 = .ok (.getfield 27, 3) := by decide +kernel
theorem dX8_forests_155 : decode cX8_forests 155 = .ok (.aload_n 0, 1) := by decide +kernel
theorem dX8_forests_156 : decode cX8_forests 156 = .ok (.getfield 13, 3) := by decide +kernel
theorem dX8_forests_159 : decode cX8_forests 159 = .ok (.iload 4, 2) := by decide +kernel
theorem dX8_forests_161 : decode cX8_forests 161 = .ok (.iaload, 1) := by decide +kernel
theorem dX8_forests_162 : decode cX8_forests 162 = .ok (.iaload, 1) := by decide +kernel
theorem dX8_forests_163 : decode cX8_forests 163 = .ok (.istore 5, 2) := by decide +kernel
theorem dX8_forests_165 : decode cX8_forests 165 = .ok (.aload_n 0, 1) := by decide +kernel
theorem dX8_forests_166 : decode cX8_forests 166 = .ok (.getfield 27, 3) := by decide +kernel
theorem dX8_forests_169 : decode cX8_forests 169 = .ok (.aload_n 0, 1) := by decide +kernel
theorem dX8_forests_170 : decode cX8_forests 170 = .ok (.getfield 17, 3) := by decide +kernel
theorem dX8_forests_173 : decode cX8_forests 173 = .ok (.iload 4, 2) := by decide +kernel
theorem dX8_forests_175 : decode cX8_forests 175 = .ok (.iaload, 1) := by decide +kernel
theorem dX8_forests_176 : decode cX8_forests 176 = .ok (.iaload, 1) := by decide +kernel
theorem dX8_forests_177 : decode cX8_forests 177 = .ok (.istore 6, 2) := by decide +kernel
theorem dX8_forests_179 : decode cX8_forests 179 = .ok (.iload 5, 2) := by decide +kernel
theorem dX8_forests_181 : decode cX8_forests 181 = .ok (.iload 6, 2) := by decide +kernel
theorem dX8_forests_183 : decode cX8_forests 183 = .ok (.if_icmp .ne 6, 3) := by decide +kernel
theorem dX8_forests_186 : decode cX8_forests 186 = .ok (.goto 21, 3) := by decide +kernel
theorem dX8_forests_189 : decode cX8_forests 189 = .ok (.aload_n 0, 1) := by decide +kernel
theorem dX8_forests_190 : decode cX8_forests 190 = .ok (.aload_n 0, 1) := by decide +kernel
theorem dX8_forests_191 : decode cX8_forests 191 = .ok (.getfield 51, 3) := by decide +kernel
theorem dX8_forests_194 : decode cX8_forests 194 = .ok (.iload 5, 2) := by decide +kernel
theorem dX8_forests_196 : decode cX8_forests 196 = .ok (.iaload, 1) := by decide +kernel
theorem dX8_forests_197 : decode cX8_forests 197 = .ok (.aload_n 0, 1) := by decide +kernel
theorem dX8_forests_198 : decode cX8_forests 198 = .ok (.getfield 51, 3) := by decide +kernel
theorem dX8_forests_201 : decode cX8_forests 201 = .ok (.iload 6, 2) := by decide +kernel
theorem dX8_forests_203 : decode cX8_forests 203 = .ok (.iaload, 1) := by decide +kernel

set_option maxRecDepth 20000 in
theorem ggL_reset_X7_reset : GoodIn wsL_reset wsX7_reset := goodIn_ca (goodIn_r _ [6, 7, 8, 9, 10, 11, 12, 13, 14, 15, 16, 17, 18, 19, 20, 21, 22, 23, 24, 25, 26, 27, 28, 29] (by decide +kernel) (by decide +kernel)) (goodIn_sub (fun _ h => List.mem_cons_of_mem _ (List.mem_append_right _ h)) (by decide +kernel))
set_option maxRecDepth 20000 in
theorem gL_reset_X7_reset : GoodIn wsL_reset (wsV RL 7 RX7 yX7_reset wsX7_reset) := goodIn_app (goodIn_of _ (by decide +kernel)) ggL_reset_X7_reset
theorem dL_reset_0 : decode cL_reset 0 = .ok (.aload_n 2, 1) := by decide +kernel
theorem dL_reset_1 : decode cL_reset 1 = .ok (.iconst 0, 1) := by decide +kernel
theorem dL_reset_2 : decode cL_reset 2 = .ok (.aload_n 0, 1) := by decide +kernel
theorem dL_reset_3 : decode cL_reset 3 = .ok (.iload_n 1, 1) := by decide +kernel
theorem dL_reset_4 : decode cL_reset 4 = .ok (.invokevirtual 7, 3) := by decide +kernel
theorem dL_reset_7 : decode cL_reset 7 = .ok (.i2l, 1) := by decide +kernel
theorem dL_reset_8 : decode cL_reset 8 = .ok (.lastore, 1) := by decide +kernel
theorem dL_reset_9 : decode cL_reset 9 = .ok (.goto 6, 3) := by decide +kernel
theorem dL_reset_12 : decode cL_reset 12 = .ok (.astore_n 3, 1) := by decide +kernel
theorem dL_reset_13 : decode cL_reset 13 = .ok (.iconst 1, 1) := by decide +kernel
theorem dL_reset_14 : decode cL_reset 14 = .ok (.ireturn, 1) := by decide +kernel
theorem dL_reset_15 : decode cL_reset 15 = .ok (.iconst 0, 1) := by decide +kernel
theorem dL_reset_16 : decode cL_reset 16 = .ok (.ireturn, 1) := by decide +kernel
set_option maxRecDepth 20000 in
theorem ggL_edge_X7_edge : GoodIn wsL_edge wsX7_edge := goodIn_ca (goodIn_ca (goodIn_r _ [7, 8, 9, 10, 11, 12, 13, 14, 15, 16, 17, 18, 19, 20, 21, 22, 23, 6, 24, 25, 26, 27, 28, 29, 30, 31, 32, 33, 34, 35, 36, 37, 38, 39, 40, 41, 42, 43, 44, 45, 46, 47, 48, 49, 50, 51, 52, 53, 54, 55, 56, 57, 58, 59, 60, 61, 62, 63, 64, 65, 66, 67, 68, 69, 70, 71, 72, 73, 74, 75, 76, 77, 78] (by decide +kernel) (by decide +kernel)) (goodIn_sub (fun _ h => List.mem_cons_of_mem _ (List.mem_append_left _ (List.mem_append_right _ h))) (by decide +kernel))) (goodIn_sub (fun _ h => List.mem_cons_of_mem _ (List.mem_append_right _ h)) (by decide +kernel))
set_option maxRecDepth 20000 in
theorem gL_edge_X7_edge : GoodIn wsL_edge (wsV RL 15 RX7 yX7_edge wsX7_edge) := goodIn_app (goodIn_of _ (by decide +kernel)) ggL_edge_X7_edge
theorem dL_edge_0 : decode cL_edge 0 = .ok (.aload 4, 2) := by decide +kernel
theorem dL_edge_2 : decode cL_edge 2 = .ok (.iconst 0, 1) := by decide +kernel
theorem dL_edge_3 : decode cL_edge 3 = .ok (.aload_n 0, 1) := by decide +kernel
theorem dL_edge_4 : decode cL_edge 4 = .ok (.iload_n 1, 1) := by decide +kernel
theorem dL_edge_5 : decode cL_edge 5 = .ok (.iload_n 2, 1) := by decide +kernel
theorem dL_edge_6 : decode cL_edge 6 = .ok (.iload_n 3, 1) := by decide +kernel
theorem dL_edge_7 : decode cL_edge 7 = .ok (.invokevirtual 15, 3) := by decide +kernel
theorem dL_edge_10 : decode cL_edge 10 = .ok (.i2l, 1) := by decide +kernel
theorem dL_edge_11 : decode cL_edge 11 = .ok (.lastore, 1) := by decide +kernel
theorem dL_edge_12 : decode cL_edge 12 = .ok (.goto 11, 3) := by decide +kernel
theorem dL_edge_15 : decode cL_edge 15 = .ok (.astore 5, 2) := by decide +kernel
theorem dL_edge_17 : decode cL_edge 17 = .ok (.iconst 1, 1) := by decide +kernel
theorem dL_edge_18 : decode cL_edge 18 = .ok (.ireturn, 1) := by decide +kernel
theorem dL_edge_19 : decode cL_edge 19 = .ok (.astore 5, 2) := by decide +kernel
theorem dL_edge_21 : decode cL_edge 21 = .ok (.iconst 2, 1) := by decide +kernel
theorem dL_edge_22 : decode cL_edge 22 = .ok (.ireturn, 1) := by decide +kernel
theorem dL_edge_23 : decode cL_edge 23 = .ok (.iconst 0, 1) := by decide +kernel
theorem dL_edge_24 : decode cL_edge 24 = .ok (.ireturn, 1) := by decide +kernel
set_option maxRecDepth 20000 in
theorem ggL_drop_X7_drop : GoodIn wsL_drop wsX7_drop := goodIn_ca (goodIn_r _ [6, 7, 8, 9, 10, 11, 12, 13, 14, 15, 16, 17, 18, 19, 20, 21, 22, 23, 24, 25, 26, 27, 28] (by decide +kernel) (by decide +kernel)) (goodIn_sub (fun _ h => List.mem_cons_of_mem _ (List.mem_append_right _ h)) (by decide +kernel))
set_option maxRecDepth 20000 in
theorem gL_drop_X7_drop : GoodIn wsL_drop (wsV RL 21 RX7 yX7_drop wsX7_drop) := goodIn_app (goodIn_of _ (by decide +kernel)) ggL_drop_X7_drop
theorem dL_drop_0 : decode cL_drop 0 = .ok (.aload_n 1, 1) := by decide +kernel
theorem dL_drop_1 : decode cL_drop 1 = .ok (.iconst 0, 1) := by decide +kernel
theorem dL_drop_2 : decode cL_drop 2 = .ok (.aload_n 0, 1) := by decide +kernel
theorem dL_drop_3 : decode cL_drop 3 = .ok (.invokevirtual 21, 3) := by decide +kernel
theorem dL_drop_6 : decode cL_drop 6 = .ok (.i2l, 1) := by decide +kernel
theorem dL_drop_7 : decode cL_drop 7 = .ok (.lastore, 1) := by decide +kernel
theorem dL_drop_8 : decode cL_drop 8 = .ok (.goto 6, 3) := by decide +kernel
theorem dL_drop_11 : decode cL_drop 11 = .ok (.astore_n 2, 1) := by decide +kernel
theorem dL_drop_12 : decode cL_drop 12 = .ok (.iconst 1, 1) := by decide +kernel
theorem dL_drop_13 : decode cL_drop 13 = .ok (.ireturn, 1) := by decide +kernel
theorem dL_drop_14 : decode cL_drop 14 = .ok (.iconst 0, 1) := by decide +kernel
theorem dL_drop_15 : decode cL_drop 15 = .ok (.ireturn, 1) := by decide +kernel
set_option maxRecDepth 20000 in
theorem ggL_forests_X7_forests : GoodIn wsL_forests wsX7_forests := goodIn_ca (goodIn_r _ [6, 7, 8, 9, 10, 11, 12, 5, 13, 14, 15, 16, 17, 18, 19, 20, 21, 22, 23, 24, 25, 26, 27, 28, 29, 30, 31, 32, 33, 34, 35, 36, 37, 38, 39, 40, 41, 42, 43, 44, 45, 46, 47, 48, 49, 50, 51, 52, 53, 54, 55, 56, 57, 58, 59, 60, 61, 62, 63, 64, 65, 66, 67, 68, 69, 70, 71, 72, 73, 74, 75, 76, 77, 78, 79] (by decide +kernel) (by decide +kernel)) (goodIn_sub (fun _ h => List.mem_cons_of_mem _ (List.mem_append_right _ h)) (by decide +kernel))
set_option maxRecDepth 20000 in
theorem gL_forests_X7_forests : GoodIn wsL_forests (wsV RL 25 RX7 yX7_forests wsX7_forests) := goodIn_app (goodIn_of _ (by decide +kernel)) ggL_forests_X7_forests
theorem dL_forests_0 : decode cL_forests 0 = .ok (.aload_n 3, 1) := by decide +kernel
theorem dL_forests_1 : decode cL_forests 1 = .ok (.iconst 0, 1) := by decide +kernel
theorem dL_forests_2 : decode cL_forests 2 = .ok (.aload_n 0, 1) := by decide +kernel
theorem dL_forests_3 : decode cL_forests 3 = .ok (.lload_n 1, 1) := by decide +kernel
theorem dL_forests_4 : decode cL_forests 4 = .ok (.invokevirtual 25, 3) := by decide +kernel
theorem dL_forests_7 : decode cL_forests 7 = .ok (.lastore, 1) := by decide +kernel
theorem dL_forests_8 : decode cL_forests 8 = .ok (.goto 7, 3) := by decide +kernel
theorem dL_forests_11 : decode cL_forests 11 = .ok (.astore 4, 2) := by decide +kernel
theorem dL_forests_13 : decode cL_forests 13 = .ok (.iconst 1, 1) := by decide +kernel
theorem dL_forests_14 : decode cL_forests 14 = .ok (.ireturn, 1) := by decide +kernel
theorem dL_forests_15 : decode cL_forests 15 = .ok (.iconst 0, 1) := by decide +kernel
theorem dL_forests_16 : decode cL_forests 16 = .ok (.ireturn, 1) := by decide +kernel
set_option maxRecDepth 20000 in
theorem ggL_lightest_X7_lightest : GoodIn wsL_lightest wsX7_lightest := goodIn_ca (goodIn_r _ [6, 7, 8, 9, 10, 11, 5, 12, 13, 14, 15, 16, 17, 18, 19, 20, 21, 22, 23, 24, 25, 26, 27, 28, 29, 30, 31, 32, 33, 34, 35, 36, 37, 38, 39, 40, 41, 42, 43, 44, 45, 46, 47, 48, 49, 50, 51, 52, 53, 54, 55, 56, 57, 58, 59, 60, 61, 62, 63, 64, 65, 66, 67, 68, 69, 70, 71, 72, 73, 74, 75, 76, 77, 78, 79, 80, 81, 82, 83, 84, 85, 86, 87, 88, 89, 90, 91, 92, 93, 94] (by decide +kernel) (by decide +kernel)) (goodIn_sub (fun _ h => List.mem_cons_of_mem _ (List.mem_append_right _ h)) (by decide +kernel))
set_option maxRecDepth 20000 in
theorem gL_lightest_X7_lightest : GoodIn wsL_lightest (wsV RL 29 RX7 yX7_lightest wsX7_lightest) := goodIn_app (goodIn_of _ (by decide +kernel)) ggL_lightest_X7_lightest
theorem dL_lightest_0 : decode cL_lightest 0 = .ok (.aload_n 3, 1) := by decide +kernel
theorem dL_lightest_1 : decode cL_lightest 1 = .ok (.iconst 0, 1) := by decide +kernel
theorem dL_lightest_2 : decode cL_lightest 2 = .ok (.aload_n 0, 1) := by decide +kernel
theorem dL_lightest_3 : decode cL_lightest 3 = .ok (.lload_n 1, 1) := by decide +kernel
theorem dL_lightest_4 : decode cL_lightest 4 = .ok (.invokevirtual 29, 3) := by decide +kernel
theorem dL_lightest_7 : decode cL_lightest 7 = .ok (.lastore, 1) := by decide +kernel
theorem dL_lightest_8 : decode cL_lightest 8 = .ok (.goto 7, 3) := by decide +kernel
theorem dL_lightest_11 : decode cL_lightest 11 = .ok (.astore 4, 2) := by decide +kernel
theorem dL_lightest_13 : decode cL_lightest 13 = .ok (.iconst 1, 1) := by decide +kernel
theorem dL_lightest_14 : decode cL_lightest 14 = .ok (.ireturn, 1) := by decide +kernel
theorem dL_lightest_15 : decode cL_lightest 15 = .ok (.iconst 0, 1) := by decide +kernel
theorem dL_lightest_16 : decode cL_lightest 16 = .ok (.ireturn, 1) := by decide +kernel
set_option maxRecDepth 20000 in
theorem ggL_isCycle_X7_isCycle : GoodIn wsL_isCycle wsX7_isCycle := goodIn_ca (goodIn_r _ [6, 7, 8, 9, 10, 5, 11, 12, 13, 14, 15, 16, 17, 18, 19, 20, 21, 22, 23, 24, 25, 26, 27, 28, 29, 30, 31, 32, 33, 34, 35, 36, 37, 38, 39, 40, 41, 42, 43, 44, 45, 46, 47, 48, 49, 50, 51, 52, 53, 54, 55, 56, 57, 58, 59, 60, 61, 62, 63, 64, 65, 66, 67] (by decide +kernel) (by decide +kernel)) (goodIn_sub (fun _ h => List.mem_cons_of_mem _ (List.mem_append_right _ h)) (by decide +kernel))
set_option maxRecDepth 20000 in
theorem gL_isCycle_X7_isCycle : GoodIn wsL_isCycle (wsV RL 32 RX7 yX7_isCycle wsX7_isCycle) := goodIn_app (goodIn_of _ (by decide +kernel)) ggL_isCycle_X7_isCycle
theorem dL_isCycle_0 : decode cL_isCycle 0 = .ok (.aload_n 3, 1) := by decide +kernel
theorem dL_isCycle_1 : decode cL_isCycle 1 = .ok (.iconst 0, 1) := by decide +kernel
theorem dL_isCycle_2 : decode cL_isCycle 2 = .ok (.aload_n 0, 1) := by decide +kernel
theorem dL_isCycle_3 : decode cL_isCycle 3 = .ok (.lload_n 1, 1) := by decide +kernel
theorem dL_isCycle_4 : decode cL_isCycle 4 = .ok (.invokevirtual 32, 3) := by decide +kernel
theorem dL_isCycle_7 : decode cL_isCycle 7 = .ok (.i2l, 1) := by decide +kernel
theorem dL_isCycle_8 : decode cL_isCycle 8 = .ok (.lastore, 1) := by decide +kernel
theorem dL_isCycle_9 : decode cL_isCycle 9 = .ok (.goto 7, 3) := by decide +kernel
theorem dL_isCycle_12 : decode cL_isCycle 12 = .ok (.astore 4, 2) := by decide +kernel
theorem dL_isCycle_14 : decode cL_isCycle 14 = .ok (.iconst 1, 1) := by decide +kernel
theorem dL_isCycle_15 : decode cL_isCycle 15 = .ok (.ireturn, 1) := by decide +kernel
theorem dL_isCycle_16 : decode cL_isCycle 16 = .ok (.iconst 0, 1) := by decide +kernel
theorem dL_isCycle_17 : decode cL_isCycle 17 = .ok (.ireturn, 1) := by decide +kernel
set_option maxRecDepth 20000 in
theorem ggL_through_X7_through : GoodIn wsL_through wsX7_through := goodIn_ca (goodIn_r _ [6, 7, 8, 9, 10, 11, 12, 13, 14, 15, 16, 17, 18, 19, 20, 21, 22, 23, 24, 25, 26, 27, 28, 29, 30, 31, 32, 33, 34, 35, 36, 37, 38, 39, 40, 41, 42, 43, 44, 45, 46] (by decide +kernel) (by decide +kernel)) (goodIn_sub (fun _ h => List.mem_cons_of_mem _ (List.mem_append_right _ h)) (by decide +kernel))
set_option maxRecDepth 20000 in
theorem gL_through_X7_through : GoodIn wsL_through (wsV RL 36 RX7 yX7_through wsX7_through) := goodIn_app (goodIn_of _ (by decide +kernel)) ggL_through_X7_through
theorem dL_through_0 : decode cL_through 0 = .ok (.aload_n 2, 1) := by decide +kernel
theorem dL_through_1 : decode cL_through 1 = .ok (.iconst 0, 1) := by decide +kernel
theorem dL_through_2 : decode cL_through 2 = .ok (.aload_n 0, 1) := by decide +kernel
theorem dL_through_3 : decode cL_through 3 = .ok (.iload_n 1, 1) := by decide +kernel
theorem dL_through_4 : decode cL_through 4 = .ok (.invokevirtual 36, 3) := by decide +kernel
theorem dL_through_7 : decode cL_through 7 = .ok (.lastore, 1) := by decide +kernel
theorem dL_through_8 : decode cL_through 8 = .ok (.goto 6, 3) := by decide +kernel
theorem dL_through_11 : decode cL_through 11 = .ok (.astore_n 3, 1) := by decide +kernel
theorem dL_through_12 : decode cL_through 12 = .ok (.iconst 1, 1) := by decide +kernel
theorem dL_through_13 : decode cL_through 13 = .ok (.ireturn, 1) := by decide +kernel
theorem dL_through_14 : decode cL_through 14 = .ok (.iconst 0, 1) := by decide +kernel
theorem dL_through_15 : decode cL_through 15 = .ok (.ireturn, 1) := by decide +kernel
set_option maxRecDepth 20000 in
theorem ggL_basis_X7_basis : GoodIn wsL_basis wsX7_basis := goodIn_ca (goodIn_r _ [6, 7, 8, 9, 10, 11, 12, 13, 14, 5, 15, 16, 17, 18, 19, 20, 21, 22, 23, 24, 25, 26, 27, 28, 29, 30, 31, 32, 33, 34, 35, 36, 37, 38, 39, 40, 41, 42, 43, 44, 45, 46, 47, 48, 49, 50, 51, 52, 53, 54, 55, 56, 57, 58, 59, 60, 61, 62, 63, 64, 65, 66, 67, 68, 69, 70, 71, 72, 73, 74, 75, 76, 77, 78, 79, 80, 81, 82, 83, 84, 85, 86, 87, 88, 89, 90, 91, 92, 93, 94, 95, 96, 97, 98, 99, 100, 101, 102, 103, 104, 105, 106, 107, 108, 109, 110, 111, 112, 113, 114, 115, 116, 117, 118, 119] (by decide +kernel) (by decide +kernel)) (goodIn_sub (fun _ h => List.mem_cons_of_mem _ (List.mem_append_right _ h)) (by decide +kernel))
set_option maxRecDepth 20000 in
theorem gL_basis_X7_basis : GoodIn wsL_basis (wsV RL 42 RX7 yX7_basis wsX7_basis) := goodIn_app (goodIn_of _ (by decide +kernel)) ggL_basis_X7_basis
theorem dL_basis_0 : decode cL_basis 0 = .ok (.aload_n 2, 1) := by decide +kernel
theorem dL_basis_1 : decode cL_basis 1 = .ok (.iconst 0, 1) := by decide +kernel
theorem dL_basis_2 : decode cL_basis 2 = .ok (.aload_n 0, 1) := by decide +kernel
theorem dL_basis_3 : decode cL_basis 3 = .ok (.iload_n 1, 1) := by decide +kernel
theorem dL_basis_4 : decode cL_basis 4 = .ok (.invokevirtual 42, 3) := by decide +kernel
theorem dL_basis_7 : decode cL_basis 7 = .ok (.lastore, 1) := by decide +kernel
theorem dL_basis_8 : decode cL_basis 8 = .ok (.goto 6, 3) := by decide +kernel
theorem dL_basis_11 : decode cL_basis 11 = .ok (.astore_n 3, 1) := by decide +kernel
theorem dL_basis_12 : decode cL_basis 12 = .ok (.iconst 1, 1) := by decide +kernel
theorem dL_basis_13 : decode cL_basis 13 = .ok (.ireturn, 1) := by decide +kernel
theorem dL_basis_14 : decode cL_basis 14 = .ok (.iconst 0, 1) := by decide +kernel
theorem dL_basis_15 : decode cL_basis 15 = .ok (.ireturn, 1) := by decide +kernel
set_option maxRecDepth 20000 in
theorem ggL_belongs_X7_belongs : GoodIn wsL_belongs wsX7_belongs := goodIn_ca (goodIn_r _ [6, 7, 8, 9, 10, 11, 12, 5, 13, 14, 15, 16, 17, 18, 19, 20, 21, 22, 23, 24, 25, 26, 27, 28, 29, 30, 31, 32, 33, 34, 35, 36, 37, 38, 39, 40, 41, 42, 43, 44, 45, 46, 47, 48, 49, 50, 51, 52, 53, 54, 55, 56, 57, 58, 59, 60, 61, 62, 63, 64, 65, 66, 67, 68, 69, 70, 71, 72, 73, 74, 75, 76, 77, 78, 79, 80, 81, 82, 83, 84, 85, 86, 87, 88, 89, 90, 91, 92, 93, 94, 95, 96, 97, 98, 99, 100, 101, 102, 103, 104, 105, 106, 107, 108, 109, 110, 111, 112, 113, 114, 115, 116, 117, 118, 119, 120, 121, 122, 123, 124] (by decide +kernel) (by decide +kernel)) (goodIn_sub (fun _ h => List.mem_cons_of_mem _ (List.mem_append_right _ h)) (by decide +kernel))
set_option maxRecDepth 20000 in
theorem gL_belongs_X7_belongs : GoodIn wsL_belongs (wsV RL 45 RX7 yX7_belongs wsX7_belongs) := goodIn_app (goodIn_of _ (by decide +kernel)) ggL_belongs_X7_belongs
theorem dL_belongs_0 : decode cL_belongs 0 = .ok (.aload_n 3, 1) := by decide +kernel
theorem dL_belongs_1 : decode cL_belongs 1 = .ok (.iconst 0, 1) := by decide +kernel
theorem dL_belongs_2 : decode cL_belongs 2 = .ok (.aload_n 0, 1) := by decide +kernel
theorem dL_belongs_3 : decode cL_belongs 3 = .ok (.lload_n 1, 1) := by decide +kernel
theorem dL_belongs_4 : decode cL_belongs 4 = .ok (.invokevirtual 45, 3) := by decide +kernel
theorem dL_belongs_7 : decode cL_belongs 7 = .ok (.ifCond .eq 7, 3) := by decide +kernel
theorem dL_belongs_10 : decode cL_belongs 10 = .ok (.lconst 1, 1) := by decide +kernel
theorem dL_belongs_11 : decode cL_belongs 11 = .ok (.goto 4, 3) := by decide +kernel
theorem dL_belongs_14 : decode cL_belongs 14 = .ok (.lconst 0, 1) := by decide +kernel
theorem dL_belongs_15 : decode cL_belongs 15 = .ok (.lastore, 1) := by decide +kernel
theorem dL_belongs_16 : decode cL_belongs 16 = .ok (.goto 7, 3) := by decide +kernel
theorem dL_belongs_19 : decode cL_belongs 19 = .ok (.astore 4, 2) := by decide +kernel
theorem dL_belongs_21 : decode cL_belongs 21 = .ok (.iconst 1, 1) := by decide +kernel
theorem dL_belongs_22 : decode cL_belongs 22 = .ok (.ireturn, 1) := by decide +kernel
theorem dL_belongs_23 : decode cL_belongs 23 = .ok (.iconst 0, 1) := by decide +kernel
theorem dL_belongs_24 : decode cL_belongs 24 = .ok (.ireturn, 1) := by decide +kernel
set_option maxRecDepth 20000 in
theorem ggL_add_X7_add : GoodIn wsL_add wsX7_add := goodIn_ca (goodIn_ca (goodIn_r _ [7, 8, 9, 10, 11, 12, 13, 6, 14, 15, 16, 17, 18, 19, 20, 21, 22, 23, 24, 25, 26, 27, 28, 29, 30, 31, 32, 33, 34, 35, 36, 37, 38, 39, 40, 41, 42, 43, 44, 45, 46, 47, 48, 49, 50] (by decide +kernel) (by decide +kernel)) (goodIn_sub (fun _ h => List.mem_cons_of_mem _ (List.mem_append_left _ (List.mem_append_right _ h))) (by decide +kernel))) (goodIn_sub (fun _ h => List.mem_cons_of_mem _ (List.mem_append_right _ h)) (by decide +kernel))
set_option maxRecDepth 20000 in
theorem gL_add_X7_add : GoodIn wsL_add (wsV RL 49 RX7 yX7_add wsX7_add) := goodIn_app (goodIn_of _ (by decide +kernel)) ggL_add_X7_add
theorem dL_add_0 : decode cL_add 0 = .ok (.aload_n 3, 1) := by decide +kernel
theorem dL_add_1 : decode cL_add 1 = .ok (.iconst 0, 1) := by decide +kernel
theorem dL_add_2 : decode cL_add 2 = .ok (.aload_n 0, 1) := by decide +kernel
theorem dL_add_3 : decode cL_add 3 = .ok (.lload_n 1, 1) := by decide +kernel
theorem dL_add_4 : decode cL_add 4 = .ok (.invokevirtual 49, 3) := by decide +kernel
theorem dL_add_7 : decode cL_add 7 = .ok (.i2l, 1) := by decide +kernel
theorem dL_add_8 : decode cL_add 8 = .ok (.lastore, 1) := by decide +kernel
theorem dL_add_9 : decode cL_add 9 = .ok (.goto 11, 3) := by decide +kernel
theorem dL_add_12 : decode cL_add 12 = .ok (.astore 4, 2) := by decide +kernel
theorem dL_add_14 : decode cL_add 14 = .ok (.iconst 1, 1) := by decide +kernel
theorem dL_add_15 : decode cL_add 15 = .ok (.ireturn, 1) := by decide +kernel
theorem dL_add_16 : decode cL_add 16 = .ok (.astore 4, 2) := by decide +kernel
theorem dL_add_18 : decode cL_add 18 = .ok (.iconst 2, 1) := by decide +kernel
theorem dL_add_19 : decode cL_add 19 = .ok (.ireturn, 1) := by decide +kernel
theorem dL_add_20 : decode cL_add 20 = .ok (.iconst 0, 1) := by decide +kernel
theorem dL_add_21 : decode cL_add 21 = .ok (.ireturn, 1) := by decide +kernel
set_option maxRecDepth 20000 in
theorem ggL_spans_X7_spans : GoodIn wsL_spans wsX7_spans := goodIn_ca (goodIn_r _ [6, 7, 8, 9, 10, 5, 11, 12, 13, 14, 15, 16, 17, 18, 19, 20, 21, 22, 23, 24, 25, 26, 27, 28, 29, 30, 31, 32] (by decide +kernel) (by decide +kernel)) (goodIn_sub (fun _ h => List.mem_cons_of_mem _ (List.mem_append_right _ h)) (by decide +kernel))
set_option maxRecDepth 20000 in
theorem gL_spans_X7_spans : GoodIn wsL_spans (wsV RL 52 RX7 yX7_spans wsX7_spans) := goodIn_app (goodIn_of _ (by decide +kernel)) ggL_spans_X7_spans
theorem dL_spans_0 : decode cL_spans 0 = .ok (.aload_n 3, 1) := by decide +kernel
theorem dL_spans_1 : decode cL_spans 1 = .ok (.iconst 0, 1) := by decide +kernel
theorem dL_spans_2 : decode cL_spans 2 = .ok (.aload_n 0, 1) := by decide +kernel
theorem dL_spans_3 : decode cL_spans 3 = .ok (.lload_n 1, 1) := by decide +kernel
theorem dL_spans_4 : decode cL_spans 4 = .ok (.invokevirtual 52, 3) := by decide +kernel
theorem dL_spans_7 : decode cL_spans 7 = .ok (.ifCond .eq 7, 3) := by decide +kernel
theorem dL_spans_10 : decode cL_spans 10 = .ok (.lconst 1, 1) := by decide +kernel
theorem dL_spans_11 : decode cL_spans 11 = .ok (.goto 4, 3) := by decide +kernel
theorem dL_spans_14 : decode cL_spans 14 = .ok (.lconst 0, 1) := by decide +kernel
theorem dL_spans_15 : decode cL_spans 15 = .ok (.lastore, 1) := by decide +kernel
theorem dL_spans_16 : decode cL_spans 16 = .ok (.goto 7, 3) := by decide +kernel
theorem dL_spans_19 : decode cL_spans 19 = .ok (.astore 4, 2) := by decide +kernel
theorem dL_spans_21 : decode cL_spans 21 = .ok (.iconst 1, 1) := by decide +kernel
theorem dL_spans_22 : decode cL_spans 22 = .ok (.ireturn, 1) := by decide +kernel
theorem dL_spans_23 : decode cL_spans 23 = .ok (.iconst 0, 1) := by decide +kernel
theorem dL_spans_24 : decode cL_spans 24 = .ok (.ireturn, 1) := by decide +kernel
set_option maxRecDepth 20000 in
theorem ggL_look_X7_look : GoodIn wsL_look wsX7_look := goodIn_ca (goodIn_r _ [6, 7, 8, 9, 10, 11, 12, 13, 5, 14, 15, 16, 17, 18, 19, 20, 21, 22, 23, 24, 25, 26, 27, 28, 29, 30, 31, 32, 33, 34, 35, 36, 37, 38, 39, 40, 41, 42, 43, 44, 45, 46, 47, 48, 49, 50, 51, 52, 53, 54, 55, 56, 57, 58, 59, 60, 61, 62, 63, 64, 65, 66, 67, 68, 69, 70, 71, 72, 73, 74, 75, 76, 77, 78, 79, 80, 81, 82, 83, 84, 85, 86, 87, 88, 89, 90, 91, 92, 93, 94, 95, 96, 97, 98, 99] (by decide +kernel) (by decide +kernel)) (goodIn_sub (fun _ h => List.mem_cons_of_mem _ (List.mem_append_right _ h)) (by decide +kernel))
set_option maxRecDepth 20000 in
theorem gL_look_X7_look : GoodIn wsL_look (wsV RL 55 RX7 yX7_look wsX7_look) := goodIn_app (goodIn_of _ (by decide +kernel)) ggL_look_X7_look
theorem dL_look_0 : decode cL_look 0 = .ok (.aload_n 2, 1) := by decide +kernel
theorem dL_look_1 : decode cL_look 1 = .ok (.iconst 0, 1) := by decide +kernel
theorem dL_look_2 : decode cL_look 2 = .ok (.aload_n 0, 1) := by decide +kernel
theorem dL_look_3 : decode cL_look 3 = .ok (.iload_n 1, 1) := by decide +kernel
theorem dL_look_4 : decode cL_look 4 = .ok (.invokevirtual 55, 3) := by decide +kernel
theorem dL_look_7 : decode cL_look 7 = .ok (.i2l, 1) := by decide +kernel
theorem dL_look_8 : decode cL_look 8 = .ok (.lastore, 1) := by decide +kernel
theorem dL_look_9 : decode cL_look 9 = .ok (.goto 6, 3) := by decide +kernel
theorem dL_look_12 : decode cL_look 12 = .ok (.astore_n 3, 1) := by decide +kernel
theorem dL_look_13 : decode cL_look 13 = .ok (.iconst 1, 1) := by decide +kernel
theorem dL_look_14 : decode cL_look 14 = .ok (.ireturn, 1) := by decide +kernel
theorem dL_look_15 : decode cL_look 15 = .ok (.iconst 0, 1) := by decide +kernel
theorem dL_look_16 : decode cL_look 16 = .ok (.ireturn, 1) := by decide +kernel

theorem dX0_init_0 : decode cX0_init 0 = .ok (.aload_n 0, 1) := by decide +kernel
theorem dX0_init_1 : decode cX0_init 1 = .ok (.invokespecial 3, 3) := by decide +kernel
theorem dX0_init_4 : decode cX0_init 4 = .ok (.aload_n 0, 1) := by decide +kernel
theorem dX0_init_5 : decode cX0_init 5 = .ok (.bipush 16, 2) := by decide +kernel
theorem dX0_init_7 : decode cX0_init 7 = .ok (.bipush 16, 2) := by decide +kernel
theorem dX0_init_9 : decode cX0_init 9 = .ok (.multianewarray 9 2, 4) := by decide +kernel
theorem dX0_init_13 : decode cX0_init 13 = .ok (.putfield 11, 3) := by decide +kernel
theorem dX0_init_16 : decode cX0_init 16 = .ok (.return_, 1) := by decide +kernel
set_option maxRecDepth 20000 in
theorem ggX0_count_J7_fill_53178 : GoodIn wsX0_count wsJ7_fill_53178 := goodIn_r _ [5] (by decide +kernel) (by decide +kernel)
set_option maxRecDepth 20000 in
theorem gX0_count_J7_fill_53178 : GoodIn wsX0_count (va_wsS RX0 16 yJ7_fill_53178 wsJ7_fill_53178) := goodIn_app (goodIn_of _ (by decide +kernel)) ggX0_count_J7_fill_53178
set_option maxRecDepth 20000 in
theorem ggX0_count_X0_paths : GoodIn wsX0_count wsX0_paths := goodIn_r _ [9, 6, 7, 8] (by decide +kernel) (by decide +kernel)
set_option maxRecDepth 20000 in
theorem gX0_count_X0_paths : GoodIn wsX0_count (va_wsS RX0 35 yX0_paths wsX0_paths) := goodIn_app (goodIn_of _ (by decide +kernel)) ggX0_count_X0_paths
theorem dX0_count_0 : decode cX0_count 0 = .ok (.iconst 0, 1) := by decide +kernel
theorem dX0_count_1 : decode cX0_count 1 = .ok (.istore_n 2, 1) := by decide +kernel
theorem dX0_count_2 : decode cX0_count 2 = .ok (.iload_n 2, 1) := by decide +kernel
theorem dX0_count_3 : decode cX0_count 3 = .ok (.bipush 16, 2) := by decide +kernel
theorem dX0_count_5 : decode cX0_count 5 = .ok (.if_icmp .ge 19, 3) := by decide +kernel
theorem dX0_count_8 : decode cX0_count 8 = .ok (.aload_n 0, 1) := by decide +kernel
theorem dX0_count_9 : decode cX0_count 9 = .ok (.getfield 11, 3) := by decide +kernel
theorem dX0_count_12 : decode cX0_count 12 = .ok (.iload_n 2, 1) := by decide +kernel
theorem dX0_count_13 : decode cX0_count 13 = .ok (.aaload, 1) := by decide +kernel
theorem dX0_count_14 : decode cX0_count 14 = .ok (.iconst 0, 1) := by decide +kernel
theorem dX0_count_15 : decode cX0_count 15 = .ok (.invokestatic 16, 3) := by decide +kernel
theorem dX0_count_18 : decode cX0_count 18 = .ok (.iinc 2 1, 3) := by decide +kernel
theorem dX0_count_21 : decode cX0_count 21 = .ok (.goto (-19), 3) := by decide +kernel
theorem dX0_count_24 : decode cX0_count 24 = .ok (.iconst 0, 1) := by decide +kernel
theorem dX0_count_25 : decode cX0_count 25 = .ok (.istore_n 2, 1) := by decide +kernel
theorem dX0_count_26 : decode cX0_count 26 = .ok (.iconst 0, 1) := by decide +kernel
theorem dX0_count_27 : decode cX0_count 27 = .ok (.istore_n 3, 1) := by decide +kernel
theorem dX0_count_28 : decode cX0_count 28 = .ok (.iload_n 3, 1) := by decide +kernel
theorem dX0_count_29 : decode cX0_count 29 = .ok (.aload_n 1, 1) := by decide +kernel
theorem dX0_count_30 : decode cX0_count 30 = .ok (.getfield 22, 3) := by decide +kernel
theorem dX0_count_33 : decode cX0_count 33 = .ok (.if_icmp .ge 79, 3) := by decide +kernel
theorem dX0_count_36 : decode cX0_count 36 = .ok (.aload_n 1, 1) := by decide +kernel
theorem dX0_count_37 : decode cX0_count 37 = .ok (.getfield 28, 3) := by decide +kernel
theorem dX0_count_40 : decode cX0_count 40 = .ok (.iload_n 3, 1) := by decide +kernel
theorem dX0_count_41 : decode cX0_count 41 = .ok (.iaload, 1) := by decide +kernel
theorem dX0_count_42 : decode cX0_count 42 = .ok (.istore 4, 2) := by decide +kernel
theorem dX0_count_44 : decode cX0_count 44 = .ok (.aload_n 1, 1) := by decide +kernel
theorem dX0_count_45 : decode cX0_count 45 = .ok (.getfield 32, 3) := by decide +kernel
theorem dX0_count_48 : decode cX0_count 48 = .ok (.iload_n 3, 1) := by decide +kernel
theorem dX0_count_49 : decode cX0_count 49 = .ok (.iaload, 1) := by decide +kernel
theorem dX0_count_50 : decode cX0_count 50 = .ok (.istore 5, 2) := by decide +kernel
theorem dX0_count_52 : decode cX0_count 52 = .ok (.iload_n 2, 1) := by decide +kernel
theorem dX0_count_53 : decode cX0_count 53 = .ok (.aload_n 0, 1) := by decide +kernel
theorem dX0_count_54 : decode cX0_count 54 = .ok (.getfield 11, 3) := by decide +kernel
theorem dX0_count_57 : decode cX0_count 57 = .ok (.iload 4, 2) := by decide +kernel
theorem dX0_count_59 : decode cX0_count 59 = .ok (.iload 5, 2) := by decide +kernel
theorem dX0_count_61 : decode cX0_count 61 = .ok (.iconst 1, 1) := by decide +kernel
theorem dX0_count_62 : decode cX0_count 62 = .ok (.iload 4, 2) := by decide +kernel
theorem dX0_count_64 : decode cX0_count 64 = .ok (.ishl, 1) := by decide +kernel
theorem dX0_count_65 : decode cX0_count 65 = .ok (.iconst 1, 1) := by decide +kernel
theorem dX0_count_66 : decode cX0_count 66 = .ok (.invokestatic 35, 3) := by decide +kernel
theorem dX0_count_69 : decode cX0_count 69 = .ok (.iadd, 1) := by decide +kernel
theorem dX0_count_70 : decode cX0_count 70 = .ok (.istore_n 2, 1) := by decide +kernel
theorem dX0_count_71 : decode cX0_count 71 = .ok (.aload_n 0, 1) := by decide +kernel
theorem dX0_count_72 : decode cX0_count 72 = .ok (.getfield 11, 3) := by decide +kernel
theorem dX0_count_75 : decode cX0_count 75 = .ok (.iload 4, 2) := by decide +kernel
theorem dX0_count_77 : decode cX0_count 77 = .ok (.aaload, 1) := by decide +kernel
theorem dX0_count_78 : decode cX0_count 78 = .ok (.iload 5, 2) := by decide +kernel
theorem dX0_count_80 : decode cX0_count 80 = .ok (.dup2, 1) := by decide +kernel
theorem dX0_count_81 : decode cX0_count 81 = .ok (.iaload, 1) := by decide +kernel
theorem dX0_count_82 : decode cX0_count 82 = .ok (.iconst 1, 1) := by decide +kernel
theorem dX0_count_83 : decode cX0_count 83 = .ok (.iadd, 1) := by decide +kernel
theorem dX0_count_84 : decode cX0_count 84 = .ok (.iastore, 1) := by decide +kernel
theorem dX0_count_85 : decode cX0_count 85 = .ok (.iload 4, 2) := by decide +kernel
theorem dX0_count_87 : decode cX0_count 87 = .ok (.iload 5, 2) := by decide +kernel
theorem dX0_count_89 : decode cX0_count 89 = .ok (.if_icmp .eq 17, 3) := by decide +kernel
theorem dX0_count_92 : decode cX0_count 92 = .ok (.aload_n 0, 1) := by decide +kernel
theorem dX0_count_93 : decode cX0_count 93 = .ok (.getfield 11, 3) := by decide +kernel
theorem dX0_count_96 : decode cX0_count 96 = .ok (.iload 5, 2) := by decide +kernel
theorem dX0_count_98 : decode cX0_count 98 = .ok (.aaload, 1) := by decide +kernel
theorem dX0_count_99 : decode cX0_count 99 = .ok (.iload 4, 2) := by decide +kernel
theorem dX0_count_101 : decode cX0_count 101 = .ok (.dup2, 1) := by decide +kernel
theorem dX0_count_102 : decode cX0_count 102 = .ok (.iaload, 1) := by decide +kernel
theorem dX0_count_103 : decode cX0_count 103 = .ok (.iconst 1, 1) := by decide +kernel
theorem dX0_count_104 : decode cX0_count 104 = .ok (.iadd, 1) := by decide +kernel
theorem dX0_count_105 : decode cX0_count 105 = .ok (.iastore, 1) := by decide +kernel
theorem dX0_count_106 : decode cX0_count 106 = .ok (.iinc 3 1, 3) := by decide +kernel
theorem dX0_count_109 : decode cX0_count 109 = .ok (.goto (-81), 3) := by decide +kernel
theorem dX0_count_112 : decode cX0_count 112 = .ok (.iload_n 2, 1) := by decide +kernel
theorem dX0_count_113 : decode cX0_count 113 = .ok (.ireturn, 1) := by decide +kernel
set_option maxRecDepth 20000 in
theorem ggX0_paths_X0_paths : GoodIn wsX0_paths wsX0_paths := goodIn_r _ [0, 1, 2, 3] (by decide +kernel) (by decide +kernel)
set_option maxRecDepth 20000 in
theorem gX0_paths_X0_paths : GoodIn wsX0_paths (va_wsS RX0 35 yX0_paths wsX0_paths) := goodIn_app (goodIn_of _ (by decide +kernel)) ggX0_paths_X0_paths
theorem dX0_paths_0 : decode cX0_paths 0 = .ok (.iload_n 1, 1) := by decide +kernel
theorem dX0_paths_1 : decode cX0_paths 1 = .ok (.iload_n 2, 1) := by decide +kernel
theorem dX0_paths_2 : decode cX0_paths 2 = .ok (.if_icmp .ne 5, 3) := by decide +kernel
theorem dX0_paths_5 : decode cX0_paths 5 = .ok (.iconst 1, 1) := by decide +kernel
theorem dX0_paths_6 : decode cX0_paths 6 = .ok (.ireturn, 1) := by decide +kernel
theorem dX0_paths_7 : decode cX0_paths 7 = .ok (.iload 4, 2) := by decide +kernel
theorem dX0_paths_9 : decode cX0_paths 9 = .ok (.bipush 16, 2) := by decide +kernel
theorem dX0_paths_11 : decode cX0_paths 11 = .ok (.if_icmp .lt 5, 3) := by decide +kernel
theorem dX0_paths_14 : decode cX0_paths 14 = .ok (.iconst 0, 1) := by decide +kernel
theorem dX0_paths_15 : decode cX0_paths 15 = .ok (.ireturn, 1) := by decide +kernel
theorem dX0_paths_16 : decode cX0_paths 16 = .ok (.iconst 0, 1) := by decide +kernel
theorem dX0_paths_17 : decode cX0_paths 17 = .ok (.istore 5, 2) := by decide +kernel
theorem dX0_paths_19 : decode cX0_paths 19 = .ok (.iconst 0, 1) := by decide +kernel
theorem dX0_paths_20 : decode cX0_paths 20 = .ok (.istore 6, 2) := by decide +kernel
theorem dX0_paths_22 : decode cX0_paths 22 = .ok (.iload 6, 2) := by decide +kernel
theorem dX0_paths_24 : decode cX0_paths 24 = .ok (.bipush 16, 2) := by decide +kernel
theorem dX0_paths_26 : decode cX0_paths 26 = .ok (.if_icmp .ge 56, 3) := by decide +kernel
theorem dX0_paths_29 : decode cX0_paths 29 = .ok (.aload_n 0, 1) := by decide +kernel
theorem dX0_paths_30 : decode cX0_paths 30 = .ok (.iload_n 1, 1) := by decide +kernel
theorem dX0_paths_31 : decode cX0_paths 31 = .ok (.aaload, 1) := by decide +kernel
theorem dX0_paths_32 : decode cX0_paths 32 = .ok (.iload 6, 2) := by decide +kernel
theorem dX0_paths_34 : decode cX0_paths 34 = .ok (.iaload, 1) := by decide +kernel
theorem dX0_paths_35 : decode cX0_paths 35 = .ok (.ifCond .eq 41, 3) := by decide +kernel
theorem dX0_paths_38 : decode cX0_paths 38 = .ok (.iload_n 3, 1) := by decide +kernel
theorem dX0_paths_39 : decode cX0_paths 39 = .ok (.iload 6, 2) := by decide +kernel
theorem dX0_paths_41 : decode cX0_paths 41 = .ok (.ishr, 1) := by decide +kernel
theorem dX0_paths_42 : decode cX0_paths 42 = .ok (.iconst 1, 1) := by decide +kernel
theorem dX0_paths_43 : decode cX0_paths 43 = .ok (.iand, 1) := by decide +kernel
theorem dX0_paths_44 : decode cX0_paths 44 = .ok (.ifCond .ne 32, 3) := by decide +kernel
theorem dX0_paths_47 : decode cX0_paths 47 = .ok (.iload 5, 2) := by decide +kernel
theorem dX0_paths_49 : decode cX0_paths 49 = .ok (.aload_n 0, 1) := by decide +kernel
theorem dX0_paths_50 : decode cX0_paths 50 = .ok (.iload_n 1, 1) := by decide +kernel
theorem dX0_paths_51 : decode cX0_paths 51 = .ok (.aaload, 1) := by decide +kernel
theorem dX0_paths_52 : decode cX0_paths 52 = .ok (.iload 6, 2) := by decide +kernel
theorem dX0_paths_54 : decode cX0_paths 54 = .ok (.iaload, 1) := by decide +kernel
theorem dX0_paths_55 : decode cX0_paths 55 = .ok (.aload_n 0, 1) := by decide +kernel
theorem dX0_paths_56 : decode cX0_paths 56 = .ok (.iload 6, 2) := by decide +kernel
theorem dX0_paths_58 : decode cX0_paths 58 = .ok (.iload_n 2, 1) := by decide +kernel
theorem dX0_paths_59 : decode cX0_paths 59 = .ok (.iload_n 3, 1) := by decide +kernel
theorem dX0_paths_60 : decode cX0_paths 60 = .ok (.iconst 1, 1) := by decide +kernel
theorem dX0_paths_61 : decode cX0_paths 61 = .ok (.iload 6, 2) := by decide +kernel
theorem dX0_paths_63 : decode cX0_paths 63 = .ok (.ishl, 1) := by decide +kernel
theorem dX0_paths_64 : decode cX0_paths 64 = .ok (.ior, 1) := by decide +kernel
theorem dX0_paths_65 : decode cX0_paths 65 = .ok (.iload 4, 2) := by decide +kernel
theorem dX0_paths_67 : decode cX0_paths 67 = .ok (.iconst 1, 1) := by decide +kernel
theorem dX0_paths_68 : decode cX0_paths 68 = .ok (.iadd, 1) := by decide +kernel
theorem dX0_paths_69 : decode cX0_paths 69 = .ok (.invokestatic 35, 3) := by decide +kernel
theorem dX0_paths_72 : decode cX0_paths 72 = .ok (.imul, 1) := by decide +kernel
theorem dX0_paths_73 : decode cX0_paths 73 = .ok (.iadd, 1) := by decide +kernel
theorem dX0_paths_74 : decode cX0_paths 74 = .ok (.istore 5, 2) := by decide +kernel
theorem dX0_paths_76 : decode cX0_paths 76 = .ok (.iinc 6 1, 3) := by decide +kernel
theorem dX0_paths_79 : decode cX0_paths 79 = .ok (.goto (-57), 3) := by decide +kernel
theorem dX0_paths_82 : decode cX0_paths 82 = .ok (.iload 5, 2) := by decide +kernel
theorem dX0_paths_84 : decode cX0_paths 84 = .ok (.ireturn, 1) := by decide +kernel
theorem dX1_init_0 : decode cX1_init 0 = .ok (.aload_n 0, 1) := by decide +kernel
theorem dX1_init_1 : decode cX1_init 1 = .ok (.invokespecial 3, 3) := by decide +kernel
theorem dX1_init_4 : decode cX1_init 4 = .ok (.aload_n 0, 1) := by decide +kernel
theorem dX1_init_5 : decode cX1_init 5 = .ok (.bipush 16, 2) := by decide +kernel
theorem dX1_init_7 : decode cX1_init 7 = .ok (.bipush 16, 2) := by decide +kernel
theorem dX1_init_9 : decode cX1_init 9 = .ok (.multianewarray 9 2, 4) := by decide +kernel
theorem dX1_init_13 : decode cX1_init 13 = .ok (.putfield 11, 3) := by decide +kernel
theorem dX1_init_16 : decode cX1_init 16 = .ok (.return_, 1) := by decide +kernel
set_option maxRecDepth 20000 in
theorem ggX1_count_J7_fill_d0a16 : GoodIn wsX1_count wsJ7_fill_d0a16 := goodIn_r _ [5] (by decide +kernel) (by decide +kernel)
set_option maxRecDepth 20000 in
theorem gX1_count_J7_fill_d0a16 : GoodIn wsX1_count (va_wsS RX1 22 yJ7_fill_d0a16 wsJ7_fill_d0a16) := goodIn_app (goodIn_of _ (by decide +kernel)) ggX1_count_J7_fill_d0a16
set_option maxRecDepth 20000 in
theorem ggX1_count_X1_determinant : GoodIn wsX1_count wsX1_determinant := goodIn_r _ [10, 1, 11, 12, 13, 9, 14, 20] (by decide +kernel) (by decide +kernel)
set_option maxRecDepth 20000 in
theorem gX1_count_X1_determinant : GoodIn wsX1_count (wsV RX1 43 RX1 yX1_determinant wsX1_determinant) := goodIn_app (goodIn_of _ (by decide +kernel)) ggX1_count_X1_determinant
theorem dX1_count_0 : decode cX1_count 0 = .ok (.iconst 0, 1) := by decide +kernel
theorem dX1_count_1 : decode cX1_count 1 = .ok (.istore_n 3, 1) := by decide +kernel
theorem dX1_count_2 : decode cX1_count 2 = .ok (.iload_n 3, 1) := by decide +kernel
theorem dX1_count_3 : decode cX1_count 3 = .ok (.aload_n 1, 1) := by decide +kernel
theorem dX1_count_4 : decode cX1_count 4 = .ok (.getfield 16, 3) := by decide +kernel
theorem dX1_count_7 : decode cX1_count 7 = .ok (.if_icmp .ge 19, 3) := by decide +kernel
theorem dX1_count_10 : decode cX1_count 10 = .ok (.aload_n 0, 1) := by decide +kernel
theorem dX1_count_11 : decode cX1_count 11 = .ok (.getfield 11, 3) := by decide +kernel
theorem dX1_count_14 : decode cX1_count 14 = .ok (.iload_n 3, 1) := by decide +kernel
theorem dX1_count_15 : decode cX1_count 15 = .ok (.aaload, 1) := by decide +kernel
theorem dX1_count_16 : decode cX1_count 16 = .ok (.lconst 0, 1) := by decide +kernel
theorem dX1_count_17 : decode cX1_count 17 = .ok (.invokestatic 22, 3) := by decide +kernel
theorem dX1_count_20 : decode cX1_count 20 = .ok (.iinc 3 1, 3) := by decide +kernel
theorem dX1_count_23 : decode cX1_count 23 = .ok (.goto (-21), 3) := by decide +kernel
theorem dX1_count_26 : decode cX1_count 26 = .ok (.iconst 0, 1) := by decide +kernel
theorem dX1_count_27 : decode cX1_count 27 = .ok (.istore_n 3, 1) := by decide +kernel
theorem dX1_count_28 : decode cX1_count 28 = .ok (.iload_n 3, 1) := by decide +kernel
theorem dX1_count_29 : decode cX1_count 29 = .ok (.aload_n 1, 1) := by decide +kernel
theorem dX1_count_30 : decode cX1_count 30 = .ok (.getfield 28, 3) := by decide +kernel
theorem dX1_count_33 : decode cX1_count 33 = .ok (.if_icmp .ge 98, 3) := by decide +kernel
theorem dX1_count_36 : decode cX1_count 36 = .ok (.aload_n 2, 1) := by decide +kernel
theorem dX1_count_37 : decode cX1_count 37 = .ok (.getfield 31, 3) := by decide +kernel
theorem dX1_count_40 : decode cX1_count 40 = .ok (.aload_n 1, 1) := by decide +kernel
theorem dX1_count_41 : decode cX1_count 41 = .ok (.getfield 37, 3) := by decide +kernel
theorem dX1_count_44 : decode cX1_count 44 = .ok (.iload_n 3, 1) := by decide +kernel
theorem dX1_count_45 : decode cX1_count 45 = .ok (.iaload, 1) := by decide +kernel
theorem dX1_count_46 : decode cX1_count 46 = .ok (.iaload, 1) := by decide +kernel
theorem dX1_count_47 : decode cX1_count 47 = .ok (.istore 4, 2) := by decide +kernel
theorem dX1_count_49 : decode cX1_count 49 = .ok (.aload_n 2, 1) := by decide +kernel
theorem dX1_count_50 : decode cX1_count 50 = .ok (.getfield 31, 3) := by decide +kernel
theorem dX1_count_53 : decode cX1_count 53 = .ok (.aload_n 1, 1) := by decide +kernel
theorem dX1_count_54 : decode cX1_count 54 = .ok (.getfield 40, 3) := by decide +kernel
theorem dX1_count_57 : decode cX1_count 57 = .ok (.iload_n 3, 1) := by decide +kernel
theorem dX1_count_58 : decode cX1_count 58 = .ok (.iaload, 1) := by decide +kernel
theorem dX1_count_59 : decode cX1_count 59 = .ok (.iaload, 1) := by decide +kernel
theorem dX1_count_60 : decode cX1_count 60 = .ok (.istore 5, 2) := by decide +kernel
theorem dX1_count_62 : decode cX1_count 62 = .ok (.iload 4, 2) := by decide +kernel
theorem dX1_count_64 : decode cX1_count 64 = .ok (.iload 5, 2) := by decide +kernel
theorem dX1_count_66 : decode cX1_count 66 = .ok (.if_icmp .eq 59, 3) := by decide +kernel
theorem dX1_count_69 : decode cX1_count 69 = .ok (.aload_n 0, 1) := by decide +kernel
theorem dX1_count_70 : decode cX1_count 70 = .ok (.getfield 11, 3) := by decide +kernel
theorem dX1_count_73 : decode cX1_count 73 = .ok (.iload 4, 2) := by decide +kernel
theorem dX1_count_75 : decode cX1_count 75 = .ok (.aaload, 1) := by decide +kernel
theorem dX1_count_76 : decode cX1_count 76 = .ok (.iload 4, 2) := by decide +kernel
theorem dX1_count_78 : decode cX1_count 78 = .ok (.dup2, 1) := by decide +kernel
theorem dX1_count_79 : decode cX1_count 79 = .ok (.laload, 1) := by decide +kernel
theorem dX1_count_80 : decode cX1_count 80 = .ok (.lconst 1, 1) := by decide +kernel
theorem dX1_count_81 : decode cX1_count 81 = .ok (.ladd, 1) := by decide +kernel
theorem dX1_count_82 : decode cX1_count 82 = .ok (.lastore, 1) := by decide +kernel
theorem dX1_count_83 : decode cX1_count 83 = .ok (.aload_n 0, 1) := by decide +kernel
theorem dX1_count_84 : decode cX1_count 84 = .ok (.getfield 11, 3) := by decide +kernel
theorem dX1_count_87 : decode cX1_count 87 = .ok (.iload 5, 2) := by decide +kernel
theorem dX1_count_89 : decode cX1_count 89 = .ok (.aaload, 1) := by decide +kernel
theorem dX1_count_90 : decode cX1_count 90 = .ok (.iload 5, 2) := by decide +kernel
theorem dX1_count_92 : decode cX1_count 92 = .ok (.dup2, 1) := by decide +kernel
theorem dX1_count_93 : decode cX1_count 93 = .ok (.laload, 1) := by decide +kernel
theorem dX1_count_94 : decode cX1_count 94 = .ok (.lconst 1, 1) := by decide +kernel
theorem dX1_count_95 : decode cX1_count 95 = .ok (.ladd, 1) := by decide +kernel
theorem dX1_count_96 : decode cX1_count 96 = .ok (.lastore, 1) := by decide +kernel
theorem dX1_count_97 : decode cX1_count 97 = .ok (.aload_n 0, 1) := by decide +kernel
theorem dX1_count_98 : decode cX1_count 98 = .ok (.getfield 11, 3) := by decide +kernel
theorem dX1_count_101 : decode cX1_count 101 = .ok (.iload 4, 2) := by decide +kernel
theorem dX1_count_103 : decode cX1_count 103 = .ok (.aaload, 1) := by decide +kernel
theorem dX1_count_104 : decode cX1_count 104 = .ok (.iload 5, 2) := by decide +kernel
theorem dX1_count_106 : decode cX1_count 106 = .ok (.dup2, 1) := by decide +kernel
theorem dX1_count_107 : decode cX1_count 107 = .ok (.laload, 1) := by decide +kernel
theorem dX1_count_108 : decode cX1_count 108 = .ok (.lconst 1, 1) := by decide +kernel
theorem dX1_count_109 : decode cX1_count 109 = .ok (.lsub, 1) := by decide +kernel
theorem dX1_count_110 : decode cX1_count 110 = .ok (.lastore, 1) := by decide +kernel
theorem dX1_count_111 : decode cX1_count 111 = .ok (.aload_n 0, 1) := by decide +kernel
theorem dX1_count_112 : decode cX1_count 112 = .ok (.getfield 11, 3) := by decide +kernel
theorem dX1_count_115 : decode cX1_count 115 = .ok (.iload 5, 2) := by decide +kernel
theorem dX1_count_117 : decode cX1_count 117 = .ok (.aaload, 1) := by decide +kernel
theorem dX1_count_118 : decode cX1_count 118 = .ok (.iload 4, 2) := by decide +kernel
theorem dX1_count_120 : decode cX1_count 120 = .ok (.dup2, 1) := by decide +kernel
theorem dX1_count_121 : decode cX1_count 121 = .ok (.laload, 1) := by decide +kernel
theorem dX1_count_122 : decode cX1_count 122 = .ok (.lconst 1, 1) := by decide +kernel
theorem dX1_count_123 : decode cX1_count 123 = .ok (.lsub, 1) := by decide +kernel
theorem dX1_count_124 : decode cX1_count 124 = .ok (.lastore, 1) := by decide +kernel
theorem dX1_count_125 : decode cX1_count 125 = .ok (.iinc 3 1, 3) := by decide +kernel
theorem dX1_count_128 : decode cX1_count 128 = .ok (.goto (-100), 3) := by decide +kernel
theorem dX1_count_131 : decode cX1_count 131 = .ok (.aload_n 0, 1) := by decide +kernel
theorem dX1_count_132 : decode cX1_count 132 = .ok (.aload_n 1, 1) := by decide +kernel
theorem dX1_count_133 : decode cX1_count 133 = .ok (.getfield 16, 3) := by decide +kernel
theorem dX1_count_136 : decode cX1_count 136 = .ok (.invokevirtual 43, 3) := by decide +kernel
theorem dX1_count_139 : decode cX1_count 139 = .ok (.lreturn, 1) := by decide +kernel
set_option maxRecDepth 20000 in
theorem ggX1_determinant_X1_eliminate : GoodIn wsX1_determinant wsX1_eliminate := goodIn_r _ [6, 1, 7] (by decide +kernel) (by decide +kernel)
set_option maxRecDepth 20000 in
theorem gX1_determinant_X1_eliminate : GoodIn wsX1_determinant (wsV RX1 47 RX1 yX1_eliminate wsX1_eliminate) := goodIn_app (goodIn_of _ (by decide +kernel)) ggX1_determinant_X1_eliminate
theorem dX1_determinant_0 : decode cX1_determinant 0 = .ok (.lconst 1, 1) := by decide +kernel
theorem dX1_determinant_1 : decode cX1_determinant 1 = .ok (.lstore_n 2, 1) := by decide +kernel
theorem dX1_determinant_2 : decode cX1_determinant 2 = .ok (.iconst 0, 1) := by decide +kernel
theorem dX1_determinant_3 : decode cX1_determinant 3 = .ok (.istore 4, 2) := by decide +kernel
theorem dX1_determinant_5 : decode cX1_determinant 5 = .ok (.iload 4, 2) := by decide +kernel
theorem dX1_determinant_7 : decode cX1_determinant 7 = .ok (.iload_n 1, 1) := by decide +kernel
theorem dX1_determinant_8 : decode cX1_determinant 8 = .ok (.if_icmp .ge 39, 3) := by decide +kernel
theorem dX1_determinant_11 : decode cX1_determinant 11 = .ok (.aload_n 0, 1) := by decide +kernel
theorem dX1_determinant_12 : decode cX1_determinant 12 = .ok (.getfield 11, 3) := by decide +kernel
theorem dX1_determinant_15 : decode cX1_determinant 15 = .ok (.iload 4, 2) := by decide +kernel
theorem dX1_determinant_17 : decode cX1_determinant 17 = .ok (.aaload, 1) := by decide +kernel
theorem dX1_determinant_18 : decode cX1_determinant 18 = .ok (.iload 4, 2) := by decide +kernel
theorem dX1_determinant_20 : decode cX1_determinant 20 = .ok (.laload, 1) := by decide +kernel
theorem dX1_determinant_21 : decode cX1_determinant 21 = .ok (.lstore 5, 2) := by decide +kernel
theorem dX1_determinant_23 : decode cX1_determinant 23 = .ok (.lload 5, 2) := by decide +kernel
theorem dX1_determinant_25 : decode cX1_determinant 25 = .ok (.lconst 0, 1) := by decide +kernel
theorem dX1_determinant_26 : decode cX1_determinant 26 = .ok (.lcmp, 1) := by decide +kernel
theorem dX1_determinant_27 : decode cX1_determinant 27 = .ok (.ifCond .eq 14, 3) := by decide +kernel
theorem dX1_determinant_30 : decode cX1_determinant 30 = .ok (.aload_n 0, 1) := by decide +kernel
theorem dX1_determinant_31 : decode cX1_determinant 31 = .ok (.iload 4, 2) := by decide +kernel
theorem dX1_determinant_33 : decode cX1_determinant 33 = .ok (.iload_n 1, 1) := by decide +kernel
theorem dX1_determinant_34 : decode cX1_determinant 34 = .ok (.lload_n 2, 1) := by decide +kernel
theorem dX1_determinant_35 : decode cX1_determinant 35 = .ok (.invokevirtual 47, 3) := by decide +kernel
theorem dX1_determinant_38 : decode cX1_determinant 38 = .ok (.lload 5, 2) := by decide +kernel
theorem dX1_determinant_40 : decode cX1_determinant 40 = .ok (.lstore_n 2, 1) := by decide +kernel
theorem dX1_determinant_41 : decode cX1_determinant 41 = .ok (.iinc 4 1, 3) := by decide +kernel
theorem dX1_determinant_44 : decode cX1_determinant 44 = .ok (.goto (-39), 3) := by decide +kernel
theorem dX1_determinant_47 : decode cX1_determinant 47 = .ok (.lload_n 2, 1) := by decide +kernel
theorem dX1_determinant_48 : decode cX1_determinant 48 = .ok (.lreturn, 1) := by decide +kernel
theorem dX1_eliminate_0 : decode cX1_eliminate 0 = .ok (.lload_n 3, 1) := by decide +kernel
theorem dX1_eliminate_1 : decode cX1_eliminate 1 = .ok (.lconst 0, 1) := by decide +kernel
theorem dX1_eliminate_2 : decode cX1_eliminate 2 = .ok (.lcmp, 1) := by decide +kernel
theorem dX1_eliminate_3 : decode cX1_eliminate 3 = .ok (.ifCond .ne 4, 3) := by decide +kernel
theorem dX1_eliminate_6 : decode cX1_eliminate 6 = .ok (.return_, 1) := by decide +kernel
theorem dX1_eliminate_7 : decode cX1_eliminate 7 = .ok (.iload_n 1, 1) := by decide +kernel
theorem dX1_eliminate_8 : decode cX1_eliminate 8 = .ok (.iconst 1, 1) := by decide +kernel
theorem dX1_eliminate_9 : decode cX1_eliminate 9 = .ok (.iadd, 1) := by decide +kernel
theorem dX1_eliminate_10 : decode cX1_eliminate 10 = .ok (.istore 5, 2) := by decide +kernel
theorem dX1_eliminate_12 : decode cX1_eliminate 12 = .ok (.iload 5, 2) := by decide +kernel
theorem dX1_eliminate_14 : decode cX1_eliminate 14 = .ok (.iload_n 2, 1) := by decide +kernel
theorem dX1_eliminate_15 : decode cX1_eliminate 15 = .ok (.if_icmp .ge 77, 3) := by decide +kernel
theorem dX1_eliminate_18 : decode cX1_eliminate 18 = .ok (.iload_n 1, 1) := by decide +kernel
theorem dX1_eliminate_19 : decode cX1_eliminate 19 = .ok (.iconst 1, 1) := by decide +kernel
theorem dX1_eliminate_20 : decode cX1_eliminate 20 = .ok (.iadd, 1) := by decide +kernel
theorem dX1_eliminate_21 : decode cX1_eliminate 21 = .ok (.istore 6, 2) := by decide +kernel
theorem dX1_eliminate_23 : decode cX1_eliminate 23 = .ok (.iload 6, 2) := by decide +kernel
theorem dX1_eliminate_25 : decode cX1_eliminate 25 = .ok (.iload_n 2, 1) := by decide +kernel
theorem dX1_eliminate_26 : decode cX1_eliminate 26 = .ok (.if_icmp .ge 60, 3) := by decide +kernel
theorem dX1_eliminate_29 : decode cX1_eliminate 29 = .ok (.aload_n 0, 1) := by decide +kernel
theorem dX1_eliminate_30 : decode cX1_eliminate 30 = .ok (.getfield 11, 3) := by decide +kernel
theorem dX1_eliminate_33 : decode cX1_eliminate 33 = .ok (.iload 5, 2) := by decide +kernel
theorem dX1_eliminate_35 : decode cX1_eliminate 35 = .ok (.aaload, 1) := by decide +kernel
theorem dX1_eliminate_36 : decode cX1_eliminate 36 = .ok (.iload 6, 2) := by decide +kernel
theorem dX1_eliminate_38 : decode cX1_eliminate 38 = .ok (.aload_n 0, 1) := by decide +kernel
theorem dX1_eliminate_39 : decode cX1_eliminate 39 = .ok (.getfield 11, 3) := by decide +kernel
theorem dX1_eliminate_42 : decode cX1_eliminate 42 = .ok (.iload 5, 2) := by decide +kernel
theorem dX1_eliminate_44 : decode cX1_eliminate 44 = .ok (.aaload, 1) := by decide +kernel
theorem dX1_eliminate_45 : decode cX1_eliminate 45 = .ok (.iload 6, 2) := by decide +kernel
theorem dX1_eliminate_47 : decode cX1_eliminate 47 = .ok (.laload, 1) := by decide +kernel
theorem dX1_eliminate_48 : decode cX1_eliminate 48 = .ok (.aload_n 0, 1) := by decide +kernel
theorem dX1_eliminate_49 : decode cX1_eliminate 49 = .ok (.getfield 11, 3) := by decide +kernel
theorem dX1_eliminate_52 : decode cX1_eliminate 52 = .ok (.iload_n 1, 1) := by decide +kernel
theorem dX1_eliminate_53 : decode cX1_eliminate 53 = .ok (.aaload, 1) := by decide +kernel
theorem dX1_eliminate_54 : decode cX1_eliminate 54 = .ok (.iload_n 1, 1) := by decide +kernel
theorem dX1_eliminate_55 : decode cX1_eliminate 55 = .ok (.laload, 1) := by decide +kernel
theorem dX1_eliminate_56 : decode cX1_eliminate 56 = .ok (.lmul, 1) := by decide +kernel
theorem dX1_eliminate_57 : decode cX1_eliminate 57 = .ok (.aload_n 0, 1) := by decide +kernel
theorem dX1_eliminate_58 : decode cX1_eliminate 58 = .ok (.getfield 11, 3) := by decide +kernel
theorem dX1_eliminate_61 : decode cX1_eliminate 61 = .ok (.iload 5, 2) := by decide +kernel
theorem dX1_eliminate_63 : decode cX1_eliminate 63 = .ok (.aaload, 1) := by decide +kernel
theorem dX1_eliminate_64 : decode cX1_eliminate 64 = .ok (.iload_n 1, 1) := by decide +kernel
theorem dX1_eliminate_65 : decode cX1_eliminate 65 = .ok (.laload, 1) := by decide +kernel
theorem dX1_eliminate_66 : decode cX1_eliminate 66 = .ok (.aload_n 0, 1) := by decide +kernel
theorem dX1_eliminate_67 : decode cX1_eliminate 67 = .ok (.getfield 11, 3) := by decide +kernel
theorem dX1_eliminate_70 : decode cX1_eliminate 70 = .ok (.iload_n 1, 1) := by decide +kernel
theorem dX1_eliminate_71 : decode cX1_eliminate 71 = .ok (.aaload, 1) := by decide +kernel
theorem dX1_eliminate_72 : decode cX1_eliminate 72 = .ok (.iload 6, 2) := by decide +kernel
theorem dX1_eliminate_74 : decode cX1_eliminate 74 = .ok (.laload, 1) := by decide +kernel
theorem dX1_eliminate_75 : decode cX1_eliminate 75 = .ok (.lmul, 1) := by decide +kernel
theorem dX1_eliminate_76 : decode cX1_eliminate 76 = .ok (.lsub, 1) := by decide +kernel
theorem dX1_eliminate_77 : decode cX1_eliminate 77 = .ok (.lload_n 3, 1) := by decide +kernel
theorem dX1_eliminate_78 : decode cX1_eliminate 78 = .ok (.ldiv, 1) := by decide +kernel
theorem dX1_eliminate_79 : decode cX1_eliminate 79 = .ok (.lastore, 1) := by decide +kernel
theorem dX1_eliminate_80 : decode cX1_eliminate 80 = .ok (.iinc 6 1, 3) := by decide +kernel
theorem dX1_eliminate_83 : decode cX1_eliminate 83 = .ok (.goto (-60), 3) := by decide +kernel
theorem dX1_eliminate_86 : decode cX1_eliminate 86 = .ok (.iinc 5 1, 3) := by decide +kernel
theorem dX1_eliminate_89 : decode cX1_eliminate 89 = .ok (.goto (-77), 3) := by decide +kernel
theorem dX1_eliminate_92 : decode cX1_eliminate 92 = .ok (.return_, 1) := by decide +kernel
theorem dX2_init_0 : decode cX2_init 0 = .ok (.aload_n 0, 1) := by decide +kernel
theorem dX2_init_1 : decode cX2_init 1 = .ok (.invokespecial 3, 3) := by decide +kernel
theorem dX2_init_4 : decode cX2_init 4 = .ok (.aload_n 0, 1) := by decide +kernel
theorem dX2_init_5 : decode cX2_init 5 = .ok (.iconst 1, 1) := by decide +kernel
theorem dX2_init_6 : decode cX2_init 6 = .ok (.putfield 9, 3) := by decide +kernel
theorem dX2_init_9 : decode cX2_init 9 = .ok (.aload_n 0, 1) := by decide +kernel
theorem dX2_init_10 : decode cX2_init 10 = .ok (.bipush 40, 2) := by decide +kernel
theorem dX2_init_12 : decode cX2_init 12 = .ok (.newarray .int, 2) := by decide +kernel
theorem dX2_init_14 : decode cX2_init 14 = .ok (.putfield 15, 3) := by decide +kernel
theorem dX2_init_17 : decode cX2_init 17 = .ok (.aload_n 0, 1) := by decide +kernel
theorem dX2_init_18 : decode cX2_init 18 = .ok (.bipush 40, 2) := by decide +kernel
theorem dX2_init_20 : decode cX2_init 20 = .ok (.newarray .int, 2) := by decide +kernel
theorem dX2_init_22 : decode cX2_init 22 = .ok (.putfield 19, 3) := by decide +kernel
theorem dX2_init_25 : decode cX2_init 25 = .ok (.aload_n 0, 1) := by decide +kernel
theorem dX2_init_26 : decode cX2_init 26 = .ok (.bipush 40, 2) := by decide +kernel
theorem dX2_init_28 : decode cX2_init 28 = .ok (.newarray .int, 2) := by decide +kernel
theorem dX2_init_30 : decode cX2_init 30 = .ok (.putfield 22, 3) := by decide +kernel
theorem dX2_init_33 : decode cX2_init 33 = .ok (.return_, 1) := by decide +kernel
theorem dX2_begin_0 : decode cX2_begin 0 = .ok (.aload_n 0, 1) := by decide +kernel
theorem dX2_begin_1 : decode cX2_begin 1 = .ok (.iload_n 1, 1) := by decide +kernel
theorem dX2_begin_2 : decode cX2_begin 2 = .ok (.putfield 9, 3) := by decide +kernel
theorem dX2_begin_5 : decode cX2_begin 5 = .ok (.aload_n 0, 1) := by decide +kernel
theorem dX2_begin_6 : decode cX2_begin 6 = .ok (.iconst 0, 1) := by decide +kernel
theorem dX2_begin_7 : decode cX2_begin 7 = .ok (.putfield 25, 3) := by decide +kernel
theorem dX2_begin_10 : decode cX2_begin 10 = .ok (.return_, 1) := by decide +kernel
theorem dX2_hasVertex_0 : decode cX2_hasVertex 0 = .ok (.iload_n 1, 1) := by decide +kernel
theorem dX2_hasVertex_1 : decode cX2_hasVertex 1 = .ok (.ifCond .lt 15, 3) := by decide +kernel
theorem dX2_hasVertex_4 : decode cX2_hasVertex 4 = .ok (.iload_n 1, 1) := by decide +kernel
theorem dX2_hasVertex_5 : decode cX2_hasVertex 5 = .ok (.aload_n 0, 1) := by decide +kernel
theorem dX2_hasVertex_6 : decode cX2_hasVertex 6 = .ok (.getfield 9, 3) := by decide +kernel
theorem dX2_hasVertex_9 : decode cX2_hasVertex 9 = .ok (.if_icmp .ge 7, 3) := by decide +kernel
theorem dX2_hasVertex_12 : decode cX2_hasVertex 12 = .ok (.iconst 1, 1) := by decide +kernel
theorem dX2_hasVertex_13 : decode cX2_hasVertex 13 = .ok (.goto 4, 3) := by decide +kernel
theorem dX2_hasVertex_16 : decode cX2_hasVertex 16 = .ok (.iconst 0, 1) := by decide +kernel
theorem dX2_hasVertex_17 : decode cX2_hasVertex 17 = .ok (.ireturn, 1) := by decide +kernel
theorem dX2_append_0 : decode cX2_append 0 = .ok (.aload_n 0, 1) := by decide +kernel
theorem dX2_append_1 : decode cX2_append 1 = .ok (.getfield 25, 3) := by decide +kernel
theorem dX2_append_4 : decode cX2_append 4 = .ok (.istore 4, 2) := by decide +kernel
theorem dX2_append_6 : decode cX2_append 6 = .ok (.aload_n 0, 1) := by decide +kernel
theorem dX2_append_7 : decode cX2_append 7 = .ok (.getfield 15, 3) := by decide +kernel
theorem dX2_append_10 : decode cX2_append 10 = .ok (.iload 4, 2) := by decide +kernel
theorem dX2_append_12 : decode cX2_append 12 = .ok (.iload_n 1, 1) := by decide +kernel
theorem dX2_append_13 : decode cX2_append 13 = .ok (.iastore, 1) := by decide +kernel
theorem dX2_append_14 : decode cX2_append 14 = .ok (.aload_n 0, 1) := by decide +kernel
theorem dX2_append_15 : decode cX2_append 15 = .ok (.getfield 19, 3) := by decide +kernel
theorem dX2_append_18 : decode cX2_append 18 = .ok (.iload 4, 2) := by decide +kernel
theorem dX2_append_20 : decode cX2_append 20 = .ok (.iload_n 2, 1) := by decide +kernel
theorem dX2_append_21 : decode cX2_append 21 = .ok (.iastore, 1) := by decide +kernel
theorem dX2_append_22 : decode cX2_append 22 = .ok (.aload_n 0, 1) := by decide +kernel
theorem dX2_append_23 : decode cX2_append 23 = .ok (.getfield 22, 3) := by decide +kernel
theorem dX2_append_26 : decode cX2_append 26 = .ok (.iload 4, 2) := by decide +kernel
theorem dX2_append_28 : decode cX2_append 28 = .ok (.iload_n 3, 1) := by decide +kernel
theorem dX2_append_29 : decode cX2_append 29 = .ok (.iastore, 1) := by decide +kernel
theorem dX2_append_30 : decode cX2_append 30 = .ok (.aload_n 0, 1) := by decide +kernel
theorem dX2_append_31 : decode cX2_append 31 = .ok (.dup, 1) := by decide +kernel
theorem dX2_append_32 : decode cX2_append 32 = .ok (.getfield 25, 3) := by decide +kernel
theorem dX2_append_35 : decode cX2_append 35 = .ok (.iconst 1, 1) := by decide +kernel
theorem dX2_append_36 : decode cX2_append 36 = .ok (.iadd, 1) := by decide +kernel
theorem dX2_append_37 : decode cX2_append 37 = .ok (.putfield 25, 3) := by decide +kernel
theorem dX2_append_40 : decode cX2_append 40 = .ok (.iload 4, 2) := by decide +kernel
theorem dX2_append_42 : decode cX2_append 42 = .ok (.ireturn, 1) := by decide +kernel
theorem dX2_removeLast_0 : decode cX2_removeLast 0 = .ok (.aload_n 0, 1) := by decide +kernel
theorem dX2_removeLast_1 : decode cX2_removeLast 1 = .ok (.dup, 1) := by decide +kernel
theorem dX2_removeLast_2 : decode cX2_removeLast 2 = .ok (.getfield 25, 3) := by decide +kernel
theorem dX2_removeLast_5 : decode cX2_removeLast 5 = .ok (.iconst 1, 1) := by decide +kernel
theorem dX2_removeLast_6 : decode cX2_removeLast 6 = .ok (.isub, 1) := by decide +kernel
theorem dX2_removeLast_7 : decode cX2_removeLast 7 = .ok (.putfield 25, 3) := by decide +kernel
theorem dX2_removeLast_10 : decode cX2_removeLast 10 = .ok (.aload_n 0, 1) := by decide +kernel
theorem dX2_removeLast_11 : decode cX2_removeLast 11 = .ok (.getfield 25, 3) := by decide +kernel
theorem dX2_removeLast_14 : decode cX2_removeLast 14 = .ok (.ireturn, 1) := by decide +kernel
set_option maxRecDepth 20000 in
theorem ggX2_isEven_X7_has : GoodIn wsX2_isEven wsX7_has := goodIn_r _ [6] (by decide +kernel) (by decide +kernel)
set_option maxRecDepth 20000 in
theorem gX2_isEven_X7_has_n28 : GoodIn wsX2_isEven (wsX7_has) := ggX2_isEven_X7_has
theorem dX2_isEven_0 : decode cX2_isEven 0 = .ok (.iconst 0, 1) := by decide +kernel
theorem dX2_isEven_1 : decode cX2_isEven 1 = .ok (.istore_n 3, 1) := by decide +kernel
theorem dX2_isEven_2 : decode cX2_isEven 2 = .ok (.iconst 0, 1) := by decide +kernel
theorem dX2_isEven_3 : decode cX2_isEven 3 = .ok (.istore 4, 2) := by decide +kernel
theorem dX2_isEven_5 : decode cX2_isEven 5 = .ok (.iload 4, 2) := by decide +kernel
theorem dX2_isEven_7 : decode cX2_isEven 7 = .ok (.aload_n 0, 1) := by decide +kernel
theorem dX2_isEven_8 : decode cX2_isEven 8 = .ok (.getfield 25, 3) := by decide +kernel
theorem dX2_isEven_11 : decode cX2_isEven 11 = .ok (.if_icmp .ge 42, 3) := by decide +kernel
theorem dX2_isEven_14 : decode cX2_isEven 14 = .ok (.lload_n 1, 1) := by decide +kernel
theorem dX2_isEven_15 : decode cX2_isEven 15 = .ok (.iload 4, 2) := by decide +kernel
theorem dX2_isEven_17 : decode cX2_isEven 17 = .ok (.invokestatic 28, 3) := by decide +kernel
theorem dX2_isEven_20 : decode cX2_isEven 20 = .ok (.ifCond .eq 27, 3) := by decide +kernel
theorem dX2_isEven_23 : decode cX2_isEven 23 = .ok (.iload_n 3, 1) := by decide +kernel
theorem dX2_isEven_24 : decode cX2_isEven 24 = .ok (.iconst 1, 1) := by decide +kernel
theorem dX2_isEven_25 : decode cX2_isEven 25 = .ok (.aload_n 0, 1) := by decide +kernel
theorem dX2_isEven_26 : decode cX2_isEven 26 = .ok (.getfield 15, 3) := by decide +kernel
theorem dX2_isEven_29 : decode cX2_isEven 29 = .ok (.iload 4, 2) := by decide +kernel
theorem dX2_isEven_31 : decode cX2_isEven 31 = .ok (.iaload, 1) := by decide +kernel
theorem dX2_isEven_32 : decode cX2_isEven 32 = .ok (.ishl, 1) := by decide +kernel
theorem dX2_isEven_33 : decode cX2_isEven 33 = .ok (.ixor, 1) := by decide +kernel
theorem dX2_isEven_34 : decode cX2_isEven 34 = .ok (.istore_n 3, 1) := by decide +kernel
theorem dX2_isEven_35 : decode cX2_isEven 35 = .ok (.iload_n 3, 1) := by decide +kernel
theorem dX2_isEven_36 : decode cX2_isEven 36 = .ok (.iconst 1, 1) := by decide +kernel
theorem dX2_isEven_37 : decode cX2_isEven 37 = .ok (.aload_n 0, 1) := by decide +kernel
theorem dX2_isEven_38 : decode cX2_isEven 38 = .ok (.getfield 19, 3) := by decide +kernel
theorem dX2_isEven_41 : decode cX2_isEven 41 = .ok (.iload 4, 2) := by decide +kernel
theorem dX2_isEven_43 : decode cX2_isEven 43 = .ok (.iaload, 1) := by decide +kernel
theorem dX2_isEven_44 : decode cX2_isEven 44 = .ok (.ishl, 1) := by decide +kernel
theorem dX2_isEven_45 : decode cX2_isEven 45 = .ok (.ixor, 1) := by decide +kernel
theorem dX2_isEven_46 : decode cX2_isEven 46 = .ok (.istore_n 3, 1) := by decide +kernel
theorem dX2_isEven_47 : decode cX2_isEven 47 = .ok (.iinc 4 1, 3) := by decide +kernel
theorem dX2_isEven_50 : decode cX2_isEven 50 = .ok (.goto (-45), 3) := by decide +kernel
theorem dX2_isEven_53 : decode cX2_isEven 53 = .ok (.iload_n 3, 1) := by decide +kernel
theorem dX2_isEven_54 : decode cX2_isEven 54 = .ok (.ifCond .ne 7, 3) := by decide +kernel
theorem dX2_isEven_57 : decode cX2_isEven 57 = .ok (.iconst 1, 1) := by decide +kernel
theorem dX2_isEven_58 : decode cX2_isEven 58 = .ok (.goto 4, 3) := by decide +kernel
theorem dX2_isEven_61 : decode cX2_isEven 61 = .ok (.iconst 0, 1) := by decide +kernel
theorem dX2_isEven_62 : decode cX2_isEven 62 = .ok (.ireturn, 1) := by decide +kernel
set_option maxRecDepth 20000 in
theorem ggX2_weigh_X2_gain : GoodIn wsX2_weigh wsX2_gain := goodIn_r _ [5, 6, 7, 8, 9, 10, 11, 12, 13, 14, 15, 16, 17, 18, 19, 20, 21, 22, 23, 24, 25, 26, 27, 28, 29] (by decide +kernel) (by decide +kernel)
set_option maxRecDepth 20000 in
theorem gX2_weigh_X2_gain : GoodIn wsX2_weigh (wsV RX2 32 RX2 yX2_gain wsX2_gain) := goodIn_app (goodIn_of _ (by decide +kernel)) ggX2_weigh_X2_gain
theorem dX2_weigh_0 : decode cX2_weigh 0 = .ok (.aload_n 0, 1) := by decide +kernel
theorem dX2_weigh_1 : decode cX2_weigh 1 = .ok (.lload_n 1, 1) := by decide +kernel
theorem dX2_weigh_2 : decode cX2_weigh 2 = .ok (.lload_n 1, 1) := by decide +kernel
theorem dX2_weigh_3 : decode cX2_weigh 3 = .ok (.invokevirtual 32, 3) := by decide +kernel
theorem dX2_weigh_6 : decode cX2_weigh 6 = .ok (.lreturn, 1) := by decide +kernel
set_option maxRecDepth 20000 in
theorem ggX2_gain_J13_bitCount_95d88 : GoodIn wsX2_gain wsJ13_bitCount_95d88 := goodIn_r _ [5, 6, 7, 8] (by decide +kernel) (by decide +kernel)
set_option maxRecDepth 20000 in
theorem gX2_gain_J13_bitCount_95d88 : GoodIn wsX2_gain (va_wsS RX2 36 yJ13_bitCount_95d88 wsJ13_bitCount_95d88) := goodIn_app (goodIn_of _ (by decide +kernel)) ggX2_gain_J13_bitCount_95d88
set_option maxRecDepth 20000 in
theorem ggX2_gain_J13_numberOfTrailingZeros_95d88 : GoodIn wsX2_gain wsJ13_numberOfTrailingZeros_95d88 := goodIn_r _ [11, 12, 13, 14, 15, 16] (by decide +kernel) (by decide +kernel)
set_option maxRecDepth 20000 in
theorem gX2_gain_J13_numberOfTrailingZeros_95d88 : GoodIn wsX2_gain (va_wsS RX2 42 yJ13_numberOfTrailingZeros_95d88 wsJ13_numberOfTrailingZeros_95d88) := goodIn_app (goodIn_of _ (by decide +kernel)) ggX2_gain_J13_numberOfTrailingZeros_95d88
set_option maxRecDepth 20000 in
theorem ggX2_gain_X7_has : GoodIn wsX2_gain wsX7_has := goodIn_r _ [19] (by decide +kernel) (by decide +kernel)
set_option maxRecDepth 20000 in
theorem gX2_gain_X7_has_n28 : GoodIn wsX2_gain (wsX7_has) := ggX2_gain_X7_has
theorem dX2_gain_0 : decode cX2_gain 0 = .ok (.lconst 0, 1) := by decide +kernel
theorem dX2_gain_1 : decode cX2_gain 1 = .ok (.lstore 5, 2) := by decide +kernel
theorem dX2_gain_3 : decode cX2_gain 3 = .ok (.lload_n 1, 1) := by decide +kernel
theorem dX2_gain_4 : decode cX2_gain 4 = .ok (.lstore 7, 2) := by decide +kernel
theorem dX2_gain_6 : decode cX2_gain 6 = .ok (.lload_n 1, 1) := by decide +kernel
theorem dX2_gain_7 : decode cX2_gain 7 = .ok (.invokestatic 36, 3) := by decide +kernel
theorem dX2_gain_10 : decode cX2_gain 10 = .ok (.istore 9, 2) := by decide +kernel
theorem dX2_gain_12 : decode cX2_gain 12 = .ok (.iload 9, 2) := by decide +kernel
theorem dX2_gain_14 : decode cX2_gain 14 = .ok (.ifCond .le 59, 3) := by decide +kernel
theorem dX2_gain_17 : decode cX2_gain 17 = .ok (.lload 7, 2) := by decide +kernel
theorem dX2_gain_19 : decode cX2_gain 19 = .ok (.invokestatic 42, 3) := by decide +kernel
theorem dX2_gain_22 : decode cX2_gain 22 = .ok (.istore 10, 2) := by decide +kernel
theorem dX2_gain_24 : decode cX2_gain 24 = .ok (.lload 5, 2) := by decide +kernel
theorem dX2_gain_26 : decode cX2_gain 26 = .ok (.lload_n 3, 1) := by decide +kernel
theorem dX2_gain_27 : decode cX2_gain 27 = .ok (.iload 10, 2) := by decide +kernel
theorem dX2_gain_29 : decode cX2_gain 29 = .ok (.invokestatic 28, 3) := by decide +kernel
theorem dX2_gain_32 : decode cX2_gain 32 = .ok (.ifCond .eq 14, 3) := by decide +kernel
theorem dX2_gain_35 : decode cX2_gain 35 = .ok (.aload_n 0, 1) := by decide +kernel
theorem dX2_gain_36 : decode cX2_gain 36 = .ok (.getfield 22, 3) := by decide +kernel
theorem dX2_gain_39 : decode cX2_gain 39 = .ok (.iload 10, 2) := by decide +kernel
theorem dX2_gain_41 : decode cX2_gain 41 = .ok (.iaload, 1) := by decide +kernel
theorem dX2_gain_42 : decode cX2_gain 42 = .ok (.i2l, 1) := by decide +kernel
theorem dX2_gain_43 : decode cX2_gain 43 = .ok (.goto 12, 3) := by decide +kernel
theorem dX2_gain_46 : decode cX2_gain 46 = .ok (.aload_n 0, 1) := by decide +kernel
theorem dX2_gain_47 : decode cX2_gain 47 = .ok (.getfield 22, 3) := by decide +kernel
theorem dX2_gain_50 : decode cX2_gain 50 = .ok (.iload 10, 2) := by decide +kernel
theorem dX2_gain_52 : decode cX2_gain 52 = .ok (.iaload, 1) := by decide +kernel
theorem dX2_gain_53 : decode cX2_gain 53 = .ok (.ineg, 1) := by decide +kernel
theorem dX2_gain_54 : decode cX2_gain 54 = .ok (.i2l, 1) := by decide +kernel
theorem dX2_gain_55 : decode cX2_gain 55 = .ok (.ladd, 1) := by decide +kernel
theorem dX2_gain_56 : decode cX2_gain 56 = .ok (.lstore 5, 2) := by decide +kernel
theorem dX2_gain_58 : decode cX2_gain 58 = .ok (.lload 7, 2) := by decide +kernel
theorem dX2_gain_60 : decode cX2_gain 60 = .ok (.lload 7, 2) := by decide +kernel
theorem dX2_gain_62 : decode cX2_gain 62 = .ok (.lconst 1, 1) := by decide +kernel
theorem dX2_gain_63 : decode cX2_gain 63 = .ok (.lsub, 1) := by decide +kernel
theorem dX2_gain_64 : decode cX2_gain 64 = .ok (.land, 1) := by decide +kernel
theorem dX2_gain_65 : decode cX2_gain 65 = .ok (.lstore 7, 2) := by decide +kernel
theorem dX2_gain_67 : decode cX2_gain 67 = .ok (.iinc 9 (-1), 3) := by decide +kernel
theorem dX2_gain_70 : decode cX2_gain 70 = .ok (.goto (-58), 3) := by decide +kernel
theorem dX2_gain_73 : decode cX2_gain 73 = .ok (.lload 5, 2) := by decide +kernel
theorem dX2_gain_75 : decode cX2_gain 75 = .ok (.lreturn, 1) := by decide +kernel
theorem dX2_edgesApartFrom_0 : decode cX2_edgesApartFrom 0 = .ok (.lconst 0, 1) := by decide +kernel
theorem dX2_edgesApartFrom_1 : decode cX2_edgesApartFrom 1 = .ok (.lstore_n 2, 1) := by decide +kernel
theorem dX2_edgesApartFrom_2 : decode cX2_edgesApartFrom 2 = .ok (.iconst 0, 1) := by decide +kernel
theorem dX2_edgesApartFrom_3 : decode cX2_edgesApartFrom 3 = .ok (.istore 4, 2) := by decide +kernel
theorem dX2_edgesApartFrom_5 : decode cX2_edgesApartFrom 5 = .ok (.iload 4, 2) := by decide +kernel
theorem dX2_edgesApartFrom_7 : decode cX2_edgesApartFrom 7 = .ok (.aload_n 0, 1) := by decide +kernel
theorem dX2_edgesApartFrom_8 : decode cX2_edgesApartFrom 8 = .ok (.getfield 25, 3) := by decide +kernel
theorem dX2_edgesApartFrom_11 : decode cX2_edgesApartFrom 11 = .ok (.if_icmp .ge 38, 3) := by decide +kernel
theorem dX2_edgesApartFrom_14 : decode cX2_edgesApartFrom 14 = .ok (.aload_n 0, 1) := by decide +kernel
theorem dX2_edgesApartFrom_15 : decode cX2_edgesApartFrom 15 = .ok (.getfield 15, 3) := by decide +kernel
theorem dX2_edgesApartFrom_18 : decode cX2_edgesApartFrom 18 = .ok (.iload 4, 2) := by decide +kernel
theorem dX2_edgesApartFrom_20 : decode cX2_edgesApartFrom 20 = .ok (.iaload, 1) := by decide +kernel
theorem dX2_edgesApartFrom_21 : decode cX2_edgesApartFrom 21 = .ok (.iload_n 1, 1) := by decide +kernel
theorem dX2_edgesApartFrom_22 : decode cX2_edgesApartFrom 22 = .ok (.if_icmp .eq 21, 3) := by decide +kernel
theorem dX2_edgesApartFrom_25 : decode cX2_edgesApartFrom 25 = .ok (.aload_n 0, 1) := by decide +kernel
theorem dX2_edgesApartFrom_26 : decode cX2_edgesApartFrom 26 = .ok (.getfield 19, 3) := by decide +kernel
theorem dX2_edgesApartFrom_29 : decode cX2_edgesApartFrom 29 = .ok (.iload 4, 2) := by decide +kernel
theorem dX2_edgesApartFrom_31 : decode cX2_edgesApartFrom 31 = .ok (.iaload, 1) := by decide +kernel
theorem dX2_edgesApartFrom_32 : decode cX2_edgesApartFrom 32 = .ok (.iload_n 1, 1) := by decide +kernel
theorem dX2_edgesApartFrom_33 : decode cX2_edgesApartFrom 33 = .ok (.if_icmp .eq 10, 3) := by decide +kernel
theorem dX2_edgesApartFrom_36 : decode cX2_edgesApartFrom 36 = .ok (.lload_n 2, 1) := by decide +kernel
theorem dX2_edgesApartFrom_37 : decode cX2_edgesApartFrom 37 = .ok (.lconst 1, 1) := by decide +kernel
theorem dX2_edgesApartFrom_38 : decode cX2_edgesApartFrom 38 = .ok (.iload 4, 2) := by decide +kernel
theorem dX2_edgesApartFrom_40 : decode cX2_edgesApartFrom 40 = .ok (.lshl, 1) := by decide +kernel
theorem dX2_edgesApartFrom_41 : decode cX2_edgesApartFrom 41 = .ok (.lor, 1) := by decide +kernel
theorem dX2_edgesApartFrom_42 : decode cX2_edgesApartFrom 42 = .ok (.lstore_n 2, 1) := by decide +kernel
theorem dX2_edgesApartFrom_43 : decode cX2_edgesApartFrom 43 = .ok (.iinc 4 1, 3) := by decide +kernel
theorem dX2_edgesApartFrom_46 : decode cX2_edgesApartFrom 46 = .ok (.goto (-41), 3) := by decide +kernel
theorem dX2_edgesApartFrom_49 : decode cX2_edgesApartFrom 49 = .ok (.lload_n 2, 1) := by decide +kernel
theorem dX2_edgesApartFrom_50 : decode cX2_edgesApartFrom 50 = .ok (.lreturn, 1) := by decide +kernel
theorem dX3_init_0 : decode cX3_init 0 = .ok (.aload_n 0, 1) := by decide +kernel
theorem dX3_init_1 : decode cX3_init 1 = .ok (.invokespecial 3, 3) := by decide +kernel
theorem dX3_init_4 : decode cX3_init 4 = .ok (.aload_n 0, 1) := by decide +kernel
theorem dX3_init_5 : decode cX3_init 5 = .ok (.bipush 16, 2) := by decide +kernel
theorem dX3_init_7 : decode cX3_init 7 = .ok (.newarray .int, 2) := by decide +kernel
theorem dX3_init_9 : decode cX3_init 9 = .ok (.putfield 9, 3) := by decide +kernel
theorem dX3_init_12 : decode cX3_init 12 = .ok (.aload_n 0, 1) := by decide +kernel
theorem dX3_init_13 : decode cX3_init 13 = .ok (.bipush 16, 2) := by decide +kernel
theorem dX3_init_15 : decode cX3_init 15 = .ok (.newarray .long, 2) := by decide +kernel
theorem dX3_init_17 : decode cX3_init 17 = .ok (.putfield 15, 3) := by decide +kernel
theorem dX3_init_20 : decode cX3_init 20 = .ok (.return_, 1) := by decide +kernel
theorem dX3_part_0 : decode cX3_part 0 = .ok (.aload_n 0, 1) := by decide +kernel
theorem dX3_part_1 : decode cX3_part 1 = .ok (.iload_n 1, 1) := by decide +kernel
theorem dX3_part_2 : decode cX3_part 2 = .ok (.putfield 19, 3) := by decide +kernel
theorem dX3_part_5 : decode cX3_part 5 = .ok (.aload_n 0, 1) := by decide +kernel
theorem dX3_part_6 : decode cX3_part 6 = .ok (.iload_n 1, 1) := by decide +kernel
theorem dX3_part_7 : decode cX3_part 7 = .ok (.putfield 23, 3) := by decide +kernel
theorem dX3_part_10 : decode cX3_part 10 = .ok (.iconst 0, 1) := by decide +kernel
theorem dX3_part_11 : decode cX3_part 11 = .ok (.istore_n 2, 1) := by decide +kernel
theorem dX3_part_12 : decode cX3_part 12 = .ok (.iload_n 2, 1) := by decide +kernel
theorem dX3_part_13 : decode cX3_part 13 = .ok (.iload_n 1, 1) := by decide +kernel
theorem dX3_part_14 : decode cX3_part 14 = .ok (.if_icmp .ge 23, 3) := by decide +kernel
theorem dX3_part_17 : decode cX3_part 17 = .ok (.aload_n 0, 1) := by decide +kernel
theorem dX3_part_18 : decode cX3_part 18 = .ok (.getfield 9, 3) := by decide +kernel
theorem dX3_part_21 : decode cX3_part 21 = .ok (.iload_n 2, 1) := by decide +kernel
theorem dX3_part_22 : decode cX3_part 22 = .ok (.iload_n 2, 1) := by decide +kernel
theorem dX3_part_23 : decode cX3_part 23 = .ok (.iastore, 1) := by decide +kernel
theorem dX3_part_24 : decode cX3_part 24 = .ok (.aload_n 0, 1) := by decide +kernel
theorem dX3_part_25 : decode cX3_part 25 = .ok (.getfield 15, 3) := by decide +kernel
theorem dX3_part_28 : decode cX3_part 28 = .ok (.iload_n 2, 1) := by decide +kernel
theorem dX3_part_29 : decode cX3_part 29 = .ok (.lconst 0, 1) := by decide +kernel
theorem dX3_part_30 : decode cX3_part 30 = .ok (.lastore, 1) := by decide +kernel
theorem dX3_part_31 : decode cX3_part 31 = .ok (.iinc 2 1, 3) := by decide +kernel
theorem dX3_part_34 : decode cX3_part 34 = .ok (.goto (-22), 3) := by decide +kernel
theorem dX3_part_37 : decode cX3_part 37 = .ok (.return_, 1) := by decide +kernel
theorem dX3_together_0 : decode cX3_together 0 = .ok (.aload_n 0, 1) := by decide +kernel
theorem dX3_together_1 : decode cX3_together 1 = .ok (.getfield 9, 3) := by decide +kernel
theorem dX3_together_4 : decode cX3_together 4 = .ok (.iload_n 1, 1) := by decide +kernel
theorem dX3_together_5 : decode cX3_together 5 = .ok (.iaload, 1) := by decide +kernel
theorem dX3_together_6 : decode cX3_together 6 = .ok (.aload_n 0, 1) := by decide +kernel
theorem dX3_together_7 : decode cX3_together 7 = .ok (.getfield 9, 3) := by decide +kernel
theorem dX3_together_10 : decode cX3_together 10 = .ok (.iload_n 2, 1) := by decide +kernel
theorem dX3_together_11 : decode cX3_together 11 = .ok (.iaload, 1) := by decide +kernel
theorem dX3_together_12 : decode cX3_together 12 = .ok (.if_icmp .ne 7, 3) := by decide +kernel
theorem dX3_together_15 : decode cX3_together 15 = .ok (.iconst 1, 1) := by decide +kernel
theorem dX3_together_16 : decode cX3_together 16 = .ok (.goto 4, 3) := by decide +kernel
theorem dX3_together_19 : decode cX3_together 19 = .ok (.iconst 0, 1) := by decide +kernel
theorem dX3_together_20 : decode cX3_together 20 = .ok (.ireturn, 1) := by decide +kernel
set_option maxRecDepth 20000 in
theorem ggX3_join_X3_together : GoodIn wsX3_join wsX3_together := goodIn_r _ [7, 2, 19, 20, 21, 22] (by decide +kernel) (by decide +kernel)
set_option maxRecDepth 20000 in
theorem gX3_join_X3_together : GoodIn wsX3_join (wsV RX3 34 RX3 yX3_together wsX3_together) := goodIn_app (goodIn_of _ (by decide +kernel)) ggX3_join_X3_together
set_option maxRecDepth 20000 in
theorem ggX3_join_X3_merge : GoodIn wsX3_join wsX3_merge := goodIn_r _ [11, 12, 2, 1, 13, 19, 20, 21, 22] (by decide +kernel) (by decide +kernel)
set_option maxRecDepth 20000 in
theorem gX3_join_X3_merge : GoodIn wsX3_join (wsV RX3 38 RX3 yX3_merge wsX3_merge) := goodIn_app (goodIn_of _ (by decide +kernel)) ggX3_join_X3_merge
theorem dX3_join_0 : decode cX3_join 0 = .ok (.aload_n 1, 1) := by decide +kernel
theorem dX3_join_1 : decode cX3_join 1 = .ok (.getfield 26, 3) := by decide +kernel
theorem dX3_join_4 : decode cX3_join 4 = .ok (.iload_n 2, 1) := by decide +kernel
theorem dX3_join_5 : decode cX3_join 5 = .ok (.iaload, 1) := by decide +kernel
theorem dX3_join_6 : decode cX3_join 6 = .ok (.istore_n 3, 1) := by decide +kernel
theorem dX3_join_7 : decode cX3_join 7 = .ok (.aload_n 1, 1) := by decide +kernel
theorem dX3_join_8 : decode cX3_join 8 = .ok (.getfield 31, 3) := by decide +kernel
theorem dX3_join_11 : decode cX3_join 11 = .ok (.iload_n 2, 1) := by decide +kernel
theorem dX3_join_12 : decode cX3_join 12 = .ok (.iaload, 1) := by decide +kernel
theorem dX3_join_13 : decode cX3_join 13 = .ok (.istore 4, 2) := by decide +kernel
theorem dX3_join_15 : decode cX3_join 15 = .ok (.aload_n 0, 1) := by decide +kernel
theorem dX3_join_16 : decode cX3_join 16 = .ok (.getfield 15, 3) := by decide +kernel
theorem dX3_join_19 : decode cX3_join 19 = .ok (.iload_n 3, 1) := by decide +kernel
theorem dX3_join_20 : decode cX3_join 20 = .ok (.laload, 1) := by decide +kernel
theorem dX3_join_21 : decode cX3_join 21 = .ok (.aload_n 0, 1) := by decide +kernel
theorem dX3_join_22 : decode cX3_join 22 = .ok (.getfield 15, 3) := by decide +kernel
theorem dX3_join_25 : decode cX3_join 25 = .ok (.iload 4, 2) := by decide +kernel
theorem dX3_join_27 : decode cX3_join 27 = .ok (.laload, 1) := by decide +kernel
theorem dX3_join_28 : decode cX3_join 28 = .ok (.lxor, 1) := by decide +kernel
theorem dX3_join_29 : decode cX3_join 29 = .ok (.lconst 1, 1) := by decide +kernel
theorem dX3_join_30 : decode cX3_join 30 = .ok (.iload_n 2, 1) := by decide +kernel
theorem dX3_join_31 : decode cX3_join 31 = .ok (.lshl, 1) := by decide +kernel
theorem dX3_join_32 : decode cX3_join 32 = .ok (.lxor, 1) := by decide +kernel
theorem dX3_join_33 : decode cX3_join 33 = .ok (.lstore 5, 2) := by decide +kernel
theorem dX3_join_35 : decode cX3_join 35 = .ok (.aload_n 0, 1) := by decide +kernel
theorem dX3_join_36 : decode cX3_join 36 = .ok (.iload_n 3, 1) := by decide +kernel
theorem dX3_join_37 : decode cX3_join 37 = .ok (.iload 4, 2) := by decide +kernel
theorem dX3_join_39 : decode cX3_join 39 = .ok (.invokevirtual 34, 3) := by decide +kernel
theorem dX3_join_42 : decode cX3_join 42 = .ok (.ifCond .eq 6, 3) := by decide +kernel
theorem dX3_join_45 : decode cX3_join 45 = .ok (.lload 5, 2) := by decide +kernel
theorem dX3_join_47 : decode cX3_join 47 = .ok (.lreturn, 1) := by decide +kernel
theorem dX3_join_48 : decode cX3_join 48 = .ok (.aload_n 0, 1) := by decide +kernel
theorem dX3_join_49 : decode cX3_join 49 = .ok (.aload_n 0, 1) := by decide +kernel
theorem dX3_join_50 : decode cX3_join 50 = .ok (.getfield 9, 3) := by decide +kernel
theorem dX3_join_53 : decode cX3_join 53 = .ok (.iload_n 3, 1) := by decide +kernel
theorem dX3_join_54 : decode cX3_join 54 = .ok (.iaload, 1) := by decide +kernel
theorem dX3_join_55 : decode cX3_join 55 = .ok (.aload_n 0, 1) := by decide +kernel
theorem dX3_join_56 : decode cX3_join 56 = .ok (.getfield 9, 3) := by decide +kernel
theorem dX3_join_59 : decode cX3_join 59 = .ok (.iload 4, 2) := by decide +kernel
theorem dX3_join_61 : decode cX3_join 61 = .ok (.iaload, 1) := by decide +kernel
theorem dX3_join_62 : decode cX3_join 62 = .ok (.lload 5, 2) := by decide +kernel
theorem dX3_join_64 : decode cX3_join 64 = .ok (.invokevirtual 38, 3) := by decide +kernel
theorem dX3_join_67 : decode cX3_join 67 = .ok (.lconst 0, 1) := by decide +kernel
theorem dX3_join_68 : decode cX3_join 68 = .ok (.lreturn, 1) := by decide +kernel
theorem dX3_merge_0 : decode cX3_merge 0 = .ok (.iconst 0, 1) := by decide +kernel
theorem dX3_merge_1 : decode cX3_merge 1 = .ok (.istore 5, 2) := by decide +kernel
theorem dX3_merge_3 : decode cX3_merge 3 = .ok (.iload 5, 2) := by decide +kernel
theorem dX3_merge_5 : decode cX3_merge 5 = .ok (.aload_n 0, 1) := by decide +kernel
theorem dX3_merge_6 : decode cX3_merge 6 = .ok (.getfield 19, 3) := by decide +kernel
theorem dX3_merge_9 : decode cX3_merge 9 = .ok (.if_icmp .ge 39, 3) := by decide +kernel
theorem dX3_merge_12 : decode cX3_merge 12 = .ok (.aload_n 0, 1) := by decide +kernel
theorem dX3_merge_13 : decode cX3_merge 13 = .ok (.getfield 9, 3) := by decide +kernel
theorem dX3_merge_16 : decode cX3_merge 16 = .ok (.iload 5, 2) := by decide +kernel
theorem dX3_merge_18 : decode cX3_merge 18 = .ok (.iaload, 1) := by decide +kernel
theorem dX3_merge_19 : decode cX3_merge 19 = .ok (.iload_n 2, 1) := by decide +kernel
theorem dX3_merge_20 : decode cX3_merge 20 = .ok (.if_icmp .ne 22, 3) := by decide +kernel
theorem dX3_merge_23 : decode cX3_merge 23 = .ok (.aload_n 0, 1) := by decide +kernel
theorem dX3_merge_24 : decode cX3_merge 24 = .ok (.getfield 9, 3) := by decide +kernel
theorem dX3_merge_27 : decode cX3_merge 27 = .ok (.iload 5, 2) := by decide +kernel
theorem dX3_merge_29 : decode cX3_merge 29 = .ok (.iload_n 1, 1) := by decide +kernel
theorem dX3_merge_30 : decode cX3_merge 30 = .ok (.iastore, 1) := by decide +kernel
theorem dX3_merge_31 : decode cX3_merge 31 = .ok (.aload_n 0, 1) := by decide +kernel
theorem dX3_merge_32 : decode cX3_merge 32 = .ok (.getfield 15, 3) := by decide +kernel
theorem dX3_merge_35 : decode cX3_merge 35 = .ok (.iload 5, 2) := by decide +kernel
theorem dX3_merge_37 : decode cX3_merge 37 = .ok (.dup2, 1) := by decide +kernel
theorem dX3_merge_38 : decode cX3_merge 38 = .ok (.laload, 1) := by decide +kernel
theorem dX3_merge_39 : decode cX3_merge 39 = .ok (.lload_n 3, 1) := by decide +kernel
theorem dX3_merge_40 : decode cX3_merge 40 = .ok (.lxor, 1) := by decide +kernel
theorem dX3_merge_41 : decode cX3_merge 41 = .ok (.lastore, 1) := by decide +kernel
theorem dX3_merge_42 : decode cX3_merge 42 = .ok (.iinc 5 1, 3) := by decide +kernel
theorem dX3_merge_45 : decode cX3_merge 45 = .ok (.goto (-42), 3) := by decide +kernel
theorem dX3_merge_48 : decode cX3_merge 48 = .ok (.aload_n 0, 1) := by decide +kernel
theorem dX3_merge_49 : decode cX3_merge 49 = .ok (.dup, 1) := by decide +kernel
theorem dX3_merge_50 : decode cX3_merge 50 = .ok (.getfield 23, 3) := by decide +kernel
theorem dX3_merge_53 : decode cX3_merge 53 = .ok (.iconst 1, 1) := by decide +kernel
theorem dX3_merge_54 : decode cX3_merge 54 = .ok (.isub, 1) := by decide +kernel
theorem dX3_merge_55 : decode cX3_merge 55 = .ok (.putfield 23, 3) := by decide +kernel
theorem dX3_merge_58 : decode cX3_merge 58 = .ok (.return_, 1) := by decide +kernel
theorem dX4_init_0 : decode cX4_init 0 = .ok (.aload_n 0, 1) := by decide +kernel
theorem dX4_init_1 : decode cX4_init 1 = .ok (.invokespecial 3, 3) := by decide +kernel
theorem dX4_init_4 : decode cX4_init 4 = .ok (.aload_n 0, 1) := by decide +kernel
theorem dX4_init_5 : decode cX4_init 5 = .ok (.bipush 14, 2) := by decide +kernel
theorem dX4_init_7 : decode cX4_init 7 = .ok (.newarray .long, 2) := by decide +kernel
theorem dX4_init_9 : decode cX4_init 9 = .ok (.putfield 9, 3) := by decide +kernel
theorem dX4_init_12 : decode cX4_init 12 = .ok (.aload_n 0, 1) := by decide +kernel
theorem dX4_init_13 : decode cX4_init 13 = .ok (.bipush 14, 2) := by decide +kernel
theorem dX4_init_15 : decode cX4_init 15 = .ok (.newarray .long, 2) := by decide +kernel
theorem dX4_init_17 : decode cX4_init 17 = .ok (.putfield 15, 3) := by decide +kernel
theorem dX4_init_20 : decode cX4_init 20 = .ok (.aload_n 0, 1) := by decide +kernel
theorem dX4_init_21 : decode cX4_init 21 = .ok (.sipush 640, 3) := by decide +kernel
theorem dX4_init_24 : decode cX4_init 24 = .ok (.newarray .long, 2) := by decide +kernel
theorem dX4_init_26 : decode cX4_init 26 = .ok (.putfield 18, 3) := by decide +kernel
theorem dX4_init_29 : decode cX4_init 29 = .ok (.aload_n 0, 1) := by decide +kernel
theorem dX4_init_30 : decode cX4_init 30 = .ok (.sipush 640, 3) := by decide +kernel
theorem dX4_init_33 : decode cX4_init 33 = .ok (.newarray .long, 2) := by decide +kernel
theorem dX4_init_35 : decode cX4_init 35 = .ok (.putfield 21, 3) := by decide +kernel
theorem dX4_init_38 : decode cX4_init 38 = .ok (.return_, 1) := by decide +kernel
set_option maxRecDepth 20000 in
theorem ggX4_find_X4_gatherAll : GoodIn wsX4_find wsX4_gatherAll := goodIn_r _ [10, 11, 12, 13, 14, 15, 16, 17, 18, 19, 20, 21, 22, 23, 24, 25, 26, 27, 28, 29, 30, 9, 31, 3, 5, 32, 33, 34, 35, 47, 48, 49, 50, 51, 52, 53, 54, 55, 56, 57, 58, 59] (by decide +kernel) (by decide +kernel)
set_option maxRecDepth 20000 in
theorem gX4_find_X4_gatherAll : GoodIn wsX4_find (wsV RX4 24 RX4 yX4_gatherAll wsX4_gatherAll) := goodIn_app (goodIn_of _ (by decide +kernel)) ggX4_find_X4_gatherAll
set_option maxRecDepth 20000 in
theorem ggX4_find_X4_lightestLeft : GoodIn wsX4_find wsX4_lightestLeft := goodIn_r _ [39, 11, 3, 5, 47, 48, 49, 50, 51, 52] (by decide +kernel) (by decide +kernel)
set_option maxRecDepth 20000 in
theorem gX4_find_X4_lightestLeft : GoodIn wsX4_find (wsV RX4 32 RX4 yX4_lightestLeft wsX4_lightestLeft) := goodIn_app (goodIn_of _ (by decide +kernel)) ggX4_find_X4_lightestLeft
set_option maxRecDepth 20000 in
theorem ggX4_find_X4_strike : GoodIn wsX4_find wsX4_strike := goodIn_r _ [43, 11, 3, 44, 45, 9, 46, 47, 48, 49, 50, 51, 52] (by decide +kernel) (by decide +kernel)
set_option maxRecDepth 20000 in
theorem gX4_find_X4_strike : GoodIn wsX4_find (wsV RX4 36 RX4 yX4_strike wsX4_strike) := goodIn_app (goodIn_of _ (by decide +kernel)) ggX4_find_X4_strike
theorem dX4_find_0 : decode cX4_find 0 = .ok (.aload_n 0, 1) := by decide +kernel
theorem dX4_find_1 : decode cX4_find 1 = .ok (.aload_n 1, 1) := by decide +kernel
theorem dX4_find_2 : decode cX4_find 2 = .ok (.aload_n 2, 1) := by decide +kernel
theorem dX4_find_3 : decode cX4_find 3 = .ok (.invokevirtual 24, 3) := by decide +kernel
theorem dX4_find_6 : decode cX4_find 6 = .ok (.aload_n 0, 1) := by decide +kernel
theorem dX4_find_7 : decode cX4_find 7 = .ok (.iconst 0, 1) := by decide +kernel
theorem dX4_find_8 : decode cX4_find 8 = .ok (.putfield 28, 3) := by decide +kernel
theorem dX4_find_11 : decode cX4_find 11 = .ok (.aload_n 0, 1) := by decide +kernel
theorem dX4_find_12 : decode cX4_find 12 = .ok (.getfield 28, 3) := by decide +kernel
theorem dX4_find_15 : decode cX4_find 15 = .ok (.bipush 14, 2) := by decide +kernel
theorem dX4_find_17 : decode cX4_find 17 = .ok (.if_icmp .ge 67, 3) := by decide +kernel
theorem dX4_find_20 : decode cX4_find 20 = .ok (.aload_n 0, 1) := by decide +kernel
theorem dX4_find_21 : decode cX4_find 21 = .ok (.invokevirtual 32, 3) := by decide +kernel
theorem dX4_find_24 : decode cX4_find 24 = .ok (.istore_n 3, 1) := by decide +kernel
theorem dX4_find_25 : decode cX4_find 25 = .ok (.iload_n 3, 1) := by decide +kernel
theorem dX4_find_26 : decode cX4_find 26 = .ok (.iconst (-1), 1) := by decide +kernel
theorem dX4_find_27 : decode cX4_find 27 = .ok (.if_icmp .ne 4, 3) := by decide +kernel
theorem dX4_find_30 : decode cX4_find 30 = .ok (.return_, 1) := by decide +kernel
theorem dX4_find_31 : decode cX4_find 31 = .ok (.aload_n 0, 1) := by decide +kernel
theorem dX4_find_32 : decode cX4_find 32 = .ok (.getfield 9, 3) := by decide +kernel
theorem dX4_find_35 : decode cX4_find 35 = .ok (.aload_n 0, 1) := by decide +kernel
theorem dX4_find_36 : decode cX4_find 36 = .ok (.getfield 28, 3) := by decide +kernel
theorem dX4_find_39 : decode cX4_find 39 = .ok (.aload_n 0, 1) := by decide +kernel
theorem dX4_find_40 : decode cX4_find 40 = .ok (.getfield 18, 3) := by decide +kernel
theorem dX4_find_43 : decode cX4_find 43 = .ok (.iload_n 3, 1) := by decide +kernel
theorem dX4_find_44 : decode cX4_find 44 = .ok (.laload, 1) := by decide +kernel
theorem dX4_find_45 : decode cX4_find 45 = .ok (.lastore, 1) := by decide +kernel
theorem dX4_find_46 : decode cX4_find 46 = .ok (.aload_n 0, 1) := by decide +kernel
theorem dX4_find_47 : decode cX4_find 47 = .ok (.getfield 15, 3) := by decide +kernel
theorem dX4_find_50 : decode cX4_find 50 = .ok (.aload_n 0, 1) := by decide +kernel
theorem dX4_find_51 : decode cX4_find 51 = .ok (.getfield 28, 3) := by decide +kernel
theorem dX4_find_54 : decode cX4_find 54 = .ok (.aload_n 0, 1) := by decide +kernel
theorem dX4_find_55 : decode cX4_find 55 = .ok (.getfield 21, 3) := by decide +kernel
theorem dX4_find_58 : decode cX4_find 58 = .ok (.iload_n 3, 1) := by decide +kernel
theorem dX4_find_59 : decode cX4_find 59 = .ok (.laload, 1) := by decide +kernel
theorem dX4_find_60 : decode cX4_find 60 = .ok (.lastore, 1) := by decide +kernel
theorem dX4_find_61 : decode cX4_find 61 = .ok (.aload_n 0, 1) := by decide +kernel
theorem dX4_find_62 : decode cX4_find 62 = .ok (.aload_n 0, 1) := by decide +kernel
theorem dX4_find_63 : decode cX4_find 63 = .ok (.getfield 18, 3) := by decide +kernel
theorem dX4_find_66 : decode cX4_find 66 = .ok (.iload_n 3, 1) := by decide +kernel
theorem dX4_find_67 : decode cX4_find 67 = .ok (.laload, 1) := by decide +kernel
theorem dX4_find_68 : decode cX4_find 68 = .ok (.invokevirtual 36, 3) := by decide +kernel
theorem dX4_find_71 : decode cX4_find 71 = .ok (.aload_n 0, 1) := by decide +kernel
theorem dX4_find_72 : decode cX4_find 72 = .ok (.dup, 1) := by decide +kernel
theorem dX4_find_73 : decode cX4_find 73 = .ok (.getfield 28, 3) := by decide +kernel
theorem dX4_find_76 : decode cX4_find 76 = .ok (.iconst 1, 1) := by decide +kernel
theorem dX4_find_77 : decode cX4_find 77 = .ok (.iadd, 1) := by decide +kernel
theorem dX4_find_78 : decode cX4_find 78 = .ok (.putfield 28, 3) := by decide +kernel
theorem dX4_find_81 : decode cX4_find 81 = .ok (.goto (-70), 3) := by decide +kernel
theorem dX4_find_84 : decode cX4_find 84 = .ok (.return_, 1) := by decide +kernel
set_option maxRecDepth 20000 in
theorem ggX4_isSumOfLighter_X4_mark : GoodIn wsX4_isSumOfLighter wsX4_mark := goodIn_r _ [7] (by decide +kernel) (by decide +kernel)
set_option maxRecDepth 20000 in
theorem gX4_isSumOfLighter_X4_mark : GoodIn wsX4_isSumOfLighter (va_wsS RX4 40 yX4_mark wsX4_mark) := goodIn_app (goodIn_of _ (by decide +kernel)) ggX4_isSumOfLighter_X4_mark
theorem dX4_isSumOfLighter_0 : decode cX4_isSumOfLighter 0 = .ok (.lload_n 1, 1) := by decide +kernel
theorem dX4_isSumOfLighter_1 : decode cX4_isSumOfLighter 1 = .ok (.lstore 5, 2) := by decide +kernel
theorem dX4_isSumOfLighter_3 : decode cX4_isSumOfLighter 3 = .ok (.iconst 0, 1) := by decide +kernel
theorem dX4_isSumOfLighter_4 : decode cX4_isSumOfLighter 4 = .ok (.istore 7, 2) := by decide +kernel
theorem dX4_isSumOfLighter_6 : decode cX4_isSumOfLighter 6 = .ok (.iload 7, 2) := by decide +kernel
theorem dX4_isSumOfLighter_8 : decode cX4_isSumOfLighter 8 = .ok (.aload_n 0, 1) := by decide +kernel
theorem dX4_isSumOfLighter_9 : decode cX4_isSumOfLighter 9 = .ok (.getfield 28, 3) := by decide +kernel
theorem dX4_isSumOfLighter_12 : decode cX4_isSumOfLighter 12 = .ok (.if_icmp .ge 51, 3) := by decide +kernel
theorem dX4_isSumOfLighter_15 : decode cX4_isSumOfLighter 15 = .ok (.aload_n 0, 1) := by decide +kernel
theorem dX4_isSumOfLighter_16 : decode cX4_isSumOfLighter 16 = .ok (.getfield 15, 3) := by decide +kernel
theorem dX4_isSumOfLighter_19 : decode cX4_isSumOfLighter 19 = .ok (.iload 7, 2) := by decide +kernel
theorem dX4_isSumOfLighter_21 : decode cX4_isSumOfLighter 21 = .ok (.laload, 1) := by decide +kernel
theorem dX4_isSumOfLighter_22 : decode cX4_isSumOfLighter 22 = .ok (.lload_n 3, 1) := by decide +kernel
theorem dX4_isSumOfLighter_23 : decode cX4_isSumOfLighter 23 = .ok (.lcmp, 1) := by decide +kernel
theorem dX4_isSumOfLighter_24 : decode cX4_isSumOfLighter 24 = .ok (.ifCond .ge 33, 3) := by decide +kernel
theorem dX4_isSumOfLighter_27 : decode cX4_isSumOfLighter 27 = .ok (.lload 5, 2) := by decide +kernel
theorem dX4_isSumOfLighter_29 : decode cX4_isSumOfLighter 29 = .ok (.aload_n 0, 1) := by decide +kernel
theorem dX4_isSumOfLighter_30 : decode cX4_isSumOfLighter 30 = .ok (.getfield 9, 3) := by decide +kernel
theorem dX4_isSumOfLighter_33 : decode cX4_isSumOfLighter 33 = .ok (.iload 7, 2) := by decide +kernel
theorem dX4_isSumOfLighter_35 : decode cX4_isSumOfLighter 35 = .ok (.laload, 1) := by decide +kernel
theorem dX4_isSumOfLighter_36 : decode cX4_isSumOfLighter 36 = .ok (.invokestatic 40, 3) := by decide +kernel
theorem dX4_isSumOfLighter_39 : decode cX4_isSumOfLighter 39 = .ok (.land, 1) := by decide +kernel
theorem dX4_isSumOfLighter_40 : decode cX4_isSumOfLighter 40 = .ok (.lconst 0, 1) := by decide +kernel
theorem dX4_isSumOfLighter_41 : decode cX4_isSumOfLighter 41 = .ok (.lcmp, 1) := by decide +kernel
theorem dX4_isSumOfLighter_42 : decode cX4_isSumOfLighter 42 = .ok (.ifCond .eq 15, 3) := by decide +kernel
theorem dX4_isSumOfLighter_45 : decode cX4_isSumOfLighter 45 = .ok (.lload 5, 2) := by decide +kernel
theorem dX4_isSumOfLighter_47 : decode cX4_isSumOfLighter 47 = .ok (.aload_n 0, 1) := by decide +kernel
theorem dX4_isSumOfLighter_48 : decode cX4_isSumOfLighter 48 = .ok (.getfield 9, 3) := by decide +kernel
theorem dX4_isSumOfLighter_51 : decode cX4_isSumOfLighter 51 = .ok (.iload 7, 2) := by decide +kernel
theorem dX4_isSumOfLighter_53 : decode cX4_isSumOfLighter 53 = .ok (.laload, 1) := by decide +kernel
theorem dX4_isSumOfLighter_54 : decode cX4_isSumOfLighter 54 = .ok (.lxor, 1) := by decide +kernel
theorem dX4_isSumOfLighter_55 : decode cX4_isSumOfLighter 55 = .ok (.lstore 5, 2) := by decide +kernel
theorem dX4_isSumOfLighter_57 : decode cX4_isSumOfLighter 57 = .ok (.iinc 7 1, 3) := by decide +kernel
theorem dX4_isSumOfLighter_60 : decode cX4_isSumOfLighter 60 = .ok (.goto (-54), 3) := by decide +kernel
theorem dX4_isSumOfLighter_63 : decode cX4_isSumOfLighter 63 = .ok (.lload 5, 2) := by decide +kernel
theorem dX4_isSumOfLighter_65 : decode cX4_isSumOfLighter 65 = .ok (.lconst 0, 1) := by decide +kernel
theorem dX4_isSumOfLighter_66 : decode cX4_isSumOfLighter 66 = .ok (.lcmp, 1) := by decide +kernel
theorem dX4_isSumOfLighter_67 : decode cX4_isSumOfLighter 67 = .ok (.ifCond .ne 7, 3) := by decide +kernel
theorem dX4_isSumOfLighter_70 : decode cX4_isSumOfLighter 70 = .ok (.iconst 1, 1) := by decide +kernel
theorem dX4_isSumOfLighter_71 : decode cX4_isSumOfLighter 71 = .ok (.goto 4, 3) := by decide +kernel
theorem dX4_isSumOfLighter_74 : decode cX4_isSumOfLighter 74 = .ok (.iconst 0, 1) := by decide +kernel
theorem dX4_isSumOfLighter_75 : decode cX4_isSumOfLighter 75 = .ok (.ireturn, 1) := by decide +kernel
set_option maxRecDepth 20000 in
theorem ggX4_gatherAll_X6_seek : GoodIn wsX4_gatherAll wsX6_seek := goodIn_r _ [6, 7, 8, 9, 10, 11, 12, 5, 13, 14, 15, 16, 17, 35, 36, 37, 38, 39, 40, 41] (by decide +kernel) (by decide +kernel)
set_option maxRecDepth 20000 in
theorem gX4_gatherAll_X6_seek : GoodIn wsX4_gatherAll (wsV RX4 52 RX6 yX6_seek wsX6_seek) := goodIn_app (goodIn_of _ (by decide +kernel)) ggX4_gatherAll_X6_seek
set_option maxRecDepth 20000 in
theorem ggX4_gatherAll_X4_gather : GoodIn wsX4_gatherAll wsX4_gather := goodIn_r _ [22, 23, 1, 24, 25, 26, 27, 5, 28, 7, 8, 35, 36, 37, 38, 39, 40, 41, 29, 30, 31, 32, 33, 34] (by decide +kernel) (by decide +kernel)
set_option maxRecDepth 20000 in
theorem gX4_gatherAll_X4_gather : GoodIn wsX4_gatherAll (wsV RX4 61 RX4 yX4_gather wsX4_gather) := goodIn_app (goodIn_of _ (by decide +kernel)) ggX4_gatherAll_X4_gather
theorem dX4_gatherAll_0 : decode cX4_gatherAll 0 = .ok (.aload_n 0, 1) := by decide +kernel
theorem dX4_gatherAll_1 : decode cX4_gatherAll 1 = .ok (.iconst 0, 1) := by decide +kernel
theorem dX4_gatherAll_2 : decode cX4_gatherAll 2 = .ok (.putfield 44, 3) := by decide +kernel
theorem dX4_gatherAll_5 : decode cX4_gatherAll 5 = .ok (.iconst 0, 1) := by decide +kernel
theorem dX4_gatherAll_6 : decode cX4_gatherAll 6 = .ok (.istore_n 3, 1) := by decide +kernel
theorem dX4_gatherAll_7 : decode cX4_gatherAll 7 = .ok (.iload_n 3, 1) := by decide +kernel
theorem dX4_gatherAll_8 : decode cX4_gatherAll 8 = .ok (.aload_n 1, 1) := by decide +kernel
theorem dX4_gatherAll_9 : decode cX4_gatherAll 9 = .ok (.getfield 47, 3) := by decide +kernel
theorem dX4_gatherAll_12 : decode cX4_gatherAll 12 = .ok (.if_icmp .ge 42, 3) := by decide +kernel
theorem dX4_gatherAll_15 : decode cX4_gatherAll 15 = .ok (.aload_n 2, 1) := by decide +kernel
theorem dX4_gatherAll_16 : decode cX4_gatherAll 16 = .ok (.aload_n 1, 1) := by decide +kernel
theorem dX4_gatherAll_17 : decode cX4_gatherAll 17 = .ok (.iload_n 3, 1) := by decide +kernel
theorem dX4_gatherAll_18 : decode cX4_gatherAll 18 = .ok (.iconst (-1), 1) := by decide +kernel
theorem dX4_gatherAll_19 : decode cX4_gatherAll 19 = .ok (.invokevirtual 52, 3) := by decide +kernel
theorem dX4_gatherAll_22 : decode cX4_gatherAll 22 = .ok (.iconst 0, 1) := by decide +kernel
theorem dX4_gatherAll_23 : decode cX4_gatherAll 23 = .ok (.istore 4, 2) := by decide +kernel
theorem dX4_gatherAll_25 : decode cX4_gatherAll 25 = .ok (.iload 4, 2) := by decide +kernel
theorem dX4_gatherAll_27 : decode cX4_gatherAll 27 = .ok (.aload_n 1, 1) := by decide +kernel
theorem dX4_gatherAll_28 : decode cX4_gatherAll 28 = .ok (.getfield 58, 3) := by decide +kernel
theorem dX4_gatherAll_31 : decode cX4_gatherAll 31 = .ok (.if_icmp .ge 17, 3) := by decide +kernel
theorem dX4_gatherAll_34 : decode cX4_gatherAll 34 = .ok (.aload_n 0, 1) := by decide +kernel
theorem dX4_gatherAll_35 : decode cX4_gatherAll 35 = .ok (.aload_n 1, 1) := by decide +kernel
theorem dX4_gatherAll_36 : decode cX4_gatherAll 36 = .ok (.aload_n 2, 1) := by decide +kernel
theorem dX4_gatherAll_37 : decode cX4_gatherAll 37 = .ok (.iload 4, 2) := by decide +kernel
theorem dX4_gatherAll_39 : decode cX4_gatherAll 39 = .ok (.invokevirtual 61, 3) := by decide +kernel
theorem dX4_gatherAll_42 : decode cX4_gatherAll 42 = .ok (.iinc 4 1, 3) := by decide +kernel
theorem dX4_gatherAll_45 : decode cX4_gatherAll 45 = .ok (.goto (-20), 3) := by decide +kernel
theorem dX4_gatherAll_48 : decode cX4_gatherAll 48 = .ok (.iinc 3 1, 3) := by decide +kernel
theorem dX4_gatherAll_51 : decode cX4_gatherAll 51 = .ok (.goto (-44), 3) := by decide +kernel
theorem dX4_gatherAll_54 : decode cX4_gatherAll 54 = .ok (.return_, 1) := by decide +kernel
set_option maxRecDepth 20000 in
theorem ggX4_gather_X6_reaches : GoodIn wsX4_gather wsX6_reaches := goodIn_r _ [8, 9, 10, 16, 17] (by decide +kernel) (by decide +kernel)
set_option maxRecDepth 20000 in
theorem gX4_gather_X6_reaches : GoodIn wsX4_gather (wsV RX4 75 RX6 yX6_reaches wsX6_reaches) := goodIn_app (goodIn_of _ (by decide +kernel)) ggX4_gather_X6_reaches
theorem dX4_gather_0 : decode cX4_gather 0 = .ok (.aload_n 1, 1) := by decide +kernel
theorem dX4_gather_1 : decode cX4_gather 1 = .ok (.getfield 65, 3) := by decide +kernel
theorem dX4_gather_4 : decode cX4_gather 4 = .ok (.iload_n 3, 1) := by decide +kernel
theorem dX4_gather_5 : decode cX4_gather 5 = .ok (.iaload, 1) := by decide +kernel
theorem dX4_gather_6 : decode cX4_gather 6 = .ok (.istore 4, 2) := by decide +kernel
theorem dX4_gather_8 : decode cX4_gather 8 = .ok (.aload_n 1, 1) := by decide +kernel
theorem dX4_gather_9 : decode cX4_gather 9 = .ok (.getfield 69, 3) := by decide +kernel
theorem dX4_gather_12 : decode cX4_gather 12 = .ok (.iload_n 3, 1) := by decide +kernel
theorem dX4_gather_13 : decode cX4_gather 13 = .ok (.iaload, 1) := by decide +kernel
theorem dX4_gather_14 : decode cX4_gather 14 = .ok (.istore 5, 2) := by decide +kernel
theorem dX4_gather_16 : decode cX4_gather 16 = .ok (.aload_n 2, 1) := by decide +kernel
theorem dX4_gather_17 : decode cX4_gather 17 = .ok (.getfield 72, 3) := by decide +kernel
theorem dX4_gather_20 : decode cX4_gather 20 = .ok (.iload 4, 2) := by decide +kernel
theorem dX4_gather_22 : decode cX4_gather 22 = .ok (.laload, 1) := by decide +kernel
theorem dX4_gather_23 : decode cX4_gather 23 = .ok (.aload_n 2, 1) := by decide +kernel
theorem dX4_gather_24 : decode cX4_gather 24 = .ok (.getfield 72, 3) := by decide +kernel
theorem dX4_gather_27 : decode cX4_gather 27 = .ok (.iload 5, 2) := by decide +kernel
theorem dX4_gather_29 : decode cX4_gather 29 = .ok (.laload, 1) := by decide +kernel
theorem dX4_gather_30 : decode cX4_gather 30 = .ok (.lxor, 1) := by decide +kernel
theorem dX4_gather_31 : decode cX4_gather 31 = .ok (.lconst 1, 1) := by decide +kernel
theorem dX4_gather_32 : decode cX4_gather 32 = .ok (.iload_n 3, 1) := by decide +kernel
theorem dX4_gather_33 : decode cX4_gather 33 = .ok (.lshl, 1) := by decide +kernel
theorem dX4_gather_34 : decode cX4_gather 34 = .ok (.lxor, 1) := by decide +kernel
theorem dX4_gather_35 : decode cX4_gather 35 = .ok (.lstore 6, 2) := by decide +kernel
theorem dX4_gather_37 : decode cX4_gather 37 = .ok (.aload_n 2, 1) := by decide +kernel
theorem dX4_gather_38 : decode cX4_gather 38 = .ok (.iload 4, 2) := by decide +kernel
theorem dX4_gather_40 : decode cX4_gather 40 = .ok (.invokevirtual 75, 3) := by decide +kernel
theorem dX4_gather_43 : decode cX4_gather 43 = .ok (.ifCond .eq 63, 3) := by decide +kernel
theorem dX4_gather_46 : decode cX4_gather 46 = .ok (.lload 6, 2) := by decide +kernel
theorem dX4_gather_48 : decode cX4_gather 48 = .ok (.lconst 0, 1) := by decide +kernel
theorem dX4_gather_49 : decode cX4_gather 49 = .ok (.lcmp, 1) := by decide +kernel
theorem dX4_gather_50 : decode cX4_gather 50 = .ok (.ifCond .eq 56, 3) := by decide +kernel
theorem dX4_gather_53 : decode cX4_gather 53 = .ok (.aload_n 0, 1) := by decide +kernel
theorem dX4_gather_54 : decode cX4_gather 54 = .ok (.getfield 18, 3) := by decide +kernel
theorem dX4_gather_57 : decode cX4_gather 57 = .ok (.aload_n 0, 1) := by decide +kernel
theorem dX4_gather_58 : decode cX4_gather 58 = .ok (.getfield 44, 3) := by decide +kernel
theorem dX4_gather_61 : decode cX4_gather 61 = .ok (.lload 6, 2) := by decide +kernel
theorem dX4_gather_63 : decode cX4_gather 63 = .ok (.lastore, 1) := by decide +kernel
theorem dX4_gather_64 : decode cX4_gather 64 = .ok (.aload_n 0, 1) := by decide +kernel
theorem dX4_gather_65 : decode cX4_gather 65 = .ok (.getfield 21, 3) := by decide +kernel
theorem dX4_gather_68 : decode cX4_gather 68 = .ok (.aload_n 0, 1) := by decide +kernel
theorem dX4_gather_69 : decode cX4_gather 69 = .ok (.getfield 44, 3) := by decide +kernel
theorem dX4_gather_72 : decode cX4_gather 72 = .ok (.aload_n 2, 1) := by decide +kernel
theorem dX4_gather_73 : decode cX4_gather 73 = .ok (.getfield 79, 3) := by decide +kernel
theorem dX4_gather_76 : decode cX4_gather 76 = .ok (.iload 4, 2) := by decide +kernel
theorem dX4_gather_78 : decode cX4_gather 78 = .ok (.laload, 1) := by decide +kernel
theorem dX4_gather_79 : decode cX4_gather 79 = .ok (.aload_n 2, 1) := by decide +kernel
theorem dX4_gather_80 : decode cX4_gather 80 = .ok (.getfield 79, 3) := by decide +kernel
theorem dX4_gather_83 : decode cX4_gather 83 = .ok (.iload 5, 2) := by decide +kernel
theorem dX4_gather_85 : decode cX4_gather 85 = .ok (.laload, 1) := by decide +kernel
theorem dX4_gather_86 : decode cX4_gather 86 = .ok (.ladd, 1) := by decide +kernel
theorem dX4_gather_87 : decode cX4_gather 87 = .ok (.aload_n 1, 1) := by decide +kernel
theorem dX4_gather_88 : decode cX4_gather 88 = .ok (.getfield 82, 3) := by decide +kernel
theorem dX4_gather_91 : decode cX4_gather 91 = .ok (.iload_n 3, 1) := by decide +kernel
theorem dX4_gather_92 : decode cX4_gather 92 = .ok (.iaload, 1) := by decide +kernel
theorem dX4_gather_93 : decode cX4_gather 93 = .ok (.i2l, 1) := by decide +kernel
theorem dX4_gather_94 : decode cX4_gather 94 = .ok (.ladd, 1) := by decide +kernel
theorem dX4_gather_95 : decode cX4_gather 95 = .ok (.lastore, 1) := by decide +kernel
theorem dX4_gather_96 : decode cX4_gather 96 = .ok (.aload_n 0, 1) := by decide +kernel
theorem dX4_gather_97 : decode cX4_gather 97 = .ok (.dup, 1) := by decide +kernel
theorem dX4_gather_98 : decode cX4_gather 98 = .ok (.getfield 44, 3) := by decide +kernel
theorem dX4_gather_101 : decode cX4_gather 101 = .ok (.iconst 1, 1) := by decide +kernel
theorem dX4_gather_102 : decode cX4_gather 102 = .ok (.iadd, 1) := by decide +kernel
theorem dX4_gather_103 : decode cX4_gather 103 = .ok (.putfield 44, 3) := by decide +kernel
theorem dX4_gather_106 : decode cX4_gather 106 = .ok (.return_, 1) := by decide +kernel
theorem dX4_lightestLeft_0 : decode cX4_lightestLeft 0 = .ok (.iconst (-1), 1) := by decide +kernel
theorem dX4_lightestLeft_1 : decode cX4_lightestLeft 1 = .ok (.istore_n 1, 1) := by decide +kernel
theorem dX4_lightestLeft_2 : decode cX4_lightestLeft 2 = .ok (.iconst 0, 1) := by decide +kernel
theorem dX4_lightestLeft_3 : decode cX4_lightestLeft 3 = .ok (.istore_n 2, 1) := by decide +kernel
theorem dX4_lightestLeft_4 : decode cX4_lightestLeft 4 = .ok (.iload_n 2, 1) := by decide +kernel
theorem dX4_lightestLeft_5 : decode cX4_lightestLeft 5 = .ok (.aload_n 0, 1) := by decide +kernel
theorem dX4_lightestLeft_6 : decode cX4_lightestLeft 6 = .ok (.getfield 44, 3) := by decide +kernel
theorem dX4_lightestLeft_9 : decode cX4_lightestLeft 9 = .ok (.if_icmp .ge 43, 3) := by decide +kernel
theorem dX4_lightestLeft_12 : decode cX4_lightestLeft 12 = .ok (.aload_n 0, 1) := by decide +kernel
theorem dX4_lightestLeft_13 : decode cX4_lightestLeft 13 = .ok (.getfield 18, 3) := by decide +kernel
theorem dX4_lightestLeft_16 : decode cX4_lightestLeft 16 = .ok (.iload_n 2, 1) := by decide +kernel
theorem dX4_lightestLeft_17 : decode cX4_lightestLeft 17 = .ok (.laload, 1) := by decide +kernel
theorem dX4_lightestLeft_18 : decode cX4_lightestLeft 18 = .ok (.lconst 0, 1) := by decide +kernel
theorem dX4_lightestLeft_19 : decode cX4_lightestLeft 19 = .ok (.lcmp, 1) := by decide +kernel
theorem dX4_lightestLeft_20 : decode cX4_lightestLeft 20 = .ok (.ifCond .eq 26, 3) := by decide +kernel
theorem dX4_lightestLeft_23 : decode cX4_lightestLeft 23 = .ok (.iload_n 1, 1) := by decide +kernel
theorem dX4_lightestLeft_24 : decode cX4_lightestLeft 24 = .ok (.iconst (-1), 1) := by decide +kernel
theorem dX4_lightestLeft_25 : decode cX4_lightestLeft 25 = .ok (.if_icmp .eq 19, 3) := by decide +kernel
theorem dX4_lightestLeft_28 : decode cX4_lightestLeft 28 = .ok (.aload_n 0, 1) := by decide +kernel
theorem dX4_lightestLeft_29 : decode cX4_lightestLeft 29 = .ok (.getfield 21, 3) := by decide +kernel
theorem dX4_lightestLeft_32 : decode cX4_lightestLeft 32 = .ok (.iload_n 2, 1) := by decide +kernel
theorem dX4_lightestLeft_33 : decode cX4_lightestLeft 33 = .ok (.laload, 1) := by decide +kernel
theorem dX4_lightestLeft_34 : decode cX4_lightestLeft 34 = .ok (.aload_n 0, 1) := by decide +kernel
theorem dX4_lightestLeft_35 : decode cX4_lightestLeft 35 = .ok (.getfield 21, 3) := by decide +kernel
theorem dX4_lightestLeft_38 : decode cX4_lightestLeft 38 = .ok (.iload_n 1, 1) := by decide +kernel
theorem dX4_lightestLeft_39 : decode cX4_lightestLeft 39 = .ok (.laload, 1) := by decide +kernel
theorem dX4_lightestLeft_40 : decode cX4_lightestLeft 40 = .ok (.lcmp, 1) := by decide +kernel
theorem dX4_lightestLeft_41 : decode cX4_lightestLeft 41 = .ok (.ifCond .ge 5, 3) := by decide +kernel
theorem dX4_lightestLeft_44 : decode cX4_lightestLeft 44 = .ok (.iload_n 2, 1) := by decide +kernel
theorem dX4_lightestLeft_45 : decode cX4_lightestLeft 45 = .ok (.istore_n 1, 1) := by decide +kernel
theorem dX4_lightestLeft_46 : decode cX4_lightestLeft 46 = .ok (.iinc 2 1, 3) := by decide +kernel
theorem dX4_lightestLeft_49 : decode cX4_lightestLeft 49 = .ok (.goto (-45), 3) := by decide +kernel
theorem dX4_lightestLeft_52 : decode cX4_lightestLeft 52 = .ok (.iload_n 1, 1) := by decide +kernel
theorem dX4_lightestLeft_53 : decode cX4_lightestLeft 53 = .ok (.ireturn, 1) := by decide +kernel
set_option maxRecDepth 20000 in
theorem ggX4_strike_X4_mark : GoodIn wsX4_strike wsX4_mark := goodIn_r _ [6] (by decide +kernel) (by decide +kernel)
set_option maxRecDepth 20000 in
theorem gX4_strike_X4_mark : GoodIn wsX4_strike (va_wsS RX4 40 yX4_mark wsX4_mark) := goodIn_app (goodIn_of _ (by decide +kernel)) ggX4_strike_X4_mark
theorem dX4_strike_0 : decode cX4_strike 0 = .ok (.iconst 0, 1) := by decide +kernel
theorem dX4_strike_1 : decode cX4_strike 1 = .ok (.istore_n 3, 1) := by decide +kernel
theorem dX4_strike_2 : decode cX4_strike 2 = .ok (.iload_n 3, 1) := by decide +kernel
theorem dX4_strike_3 : decode cX4_strike 3 = .ok (.aload_n 0, 1) := by decide +kernel
theorem dX4_strike_4 : decode cX4_strike 4 = .ok (.getfield 44, 3) := by decide +kernel
theorem dX4_strike_7 : decode cX4_strike 7 = .ok (.if_icmp .ge 35, 3) := by decide +kernel
theorem dX4_strike_10 : decode cX4_strike 10 = .ok (.aload_n 0, 1) := by decide +kernel
theorem dX4_strike_11 : decode cX4_strike 11 = .ok (.getfield 18, 3) := by decide +kernel
theorem dX4_strike_14 : decode cX4_strike 14 = .ok (.iload_n 3, 1) := by decide +kernel
theorem dX4_strike_15 : decode cX4_strike 15 = .ok (.laload, 1) := by decide +kernel
theorem dX4_strike_16 : decode cX4_strike 16 = .ok (.lload_n 1, 1) := by decide +kernel
theorem dX4_strike_17 : decode cX4_strike 17 = .ok (.invokestatic 40, 3) := by decide +kernel
theorem dX4_strike_20 : decode cX4_strike 20 = .ok (.land, 1) := by decide +kernel
theorem dX4_strike_21 : decode cX4_strike 21 = .ok (.lconst 0, 1) := by decide +kernel
theorem dX4_strike_22 : decode cX4_strike 22 = .ok (.lcmp, 1) := by decide +kernel
theorem dX4_strike_23 : decode cX4_strike 23 = .ok (.ifCond .eq 13, 3) := by decide +kernel
theorem dX4_strike_26 : decode cX4_strike 26 = .ok (.aload_n 0, 1) := by decide +kernel
theorem dX4_strike_27 : decode cX4_strike 27 = .ok (.getfield 18, 3) := by decide +kernel
theorem dX4_strike_30 : decode cX4_strike 30 = .ok (.iload_n 3, 1) := by decide +kernel
theorem dX4_strike_31 : decode cX4_strike 31 = .ok (.dup2, 1) := by decide +kernel
theorem dX4_strike_32 : decode cX4_strike 32 = .ok (.laload, 1) := by decide +kernel
theorem dX4_strike_33 : decode cX4_strike 33 = .ok (.lload_n 1, 1) := by decide +kernel
theorem dX4_strike_34 : decode cX4_strike 34 = .ok (.lxor, 1) := by decide +kernel
theorem dX4_strike_35 : decode cX4_strike 35 = .ok (.lastore, 1) := by decide +kernel
theorem dX4_strike_36 : decode cX4_strike 36 = .ok (.iinc 3 1, 3) := by decide +kernel
theorem dX4_strike_39 : decode cX4_strike 39 = .ok (.goto (-37), 3) := by decide +kernel
theorem dX4_strike_42 : decode cX4_strike 42 = .ok (.return_, 1) := by decide +kernel
theorem dX4_mark_0 : decode cX4_mark 0 = .ok (.lload_n 0, 1) := by decide +kernel
theorem dX4_mark_1 : decode cX4_mark 1 = .ok (.lload_n 0, 1) := by decide +kernel
theorem dX4_mark_2 : decode cX4_mark 2 = .ok (.lneg, 1) := by decide +kernel
theorem dX4_mark_3 : decode cX4_mark 3 = .ok (.land, 1) := by decide +kernel
theorem dX4_mark_4 : decode cX4_mark 4 = .ok (.lreturn, 1) := by decide +kernel
theorem dX5_init_0 : decode cX5_init 0 = .ok (.aload_n 0, 1) := by decide +kernel
theorem dX5_init_1 : decode cX5_init 1 = .ok (.invokespecial 3, 3) := by decide +kernel
theorem dX5_init_4 : decode cX5_init 4 = .ok (.aload_n 0, 1) := by decide +kernel
theorem dX5_init_5 : decode cX5_init 5 = .ok (.bipush 40, 2) := by decide +kernel
theorem dX5_init_7 : decode cX5_init 7 = .ok (.newarray .long, 2) := by decide +kernel
theorem dX5_init_9 : decode cX5_init 9 = .ok (.putfield 9, 3) := by decide +kernel
theorem dX5_init_12 : decode cX5_init 12 = .ok (.return_, 1) := by decide +kernel
set_option maxRecDepth 20000 in
theorem ggX5_append_X5_rest : GoodIn wsX5_append wsX5_rest := goodIn_r _ [8, 1, 9, 10, 11, 21, 22, 23] (by decide +kernel) (by decide +kernel)
set_option maxRecDepth 20000 in
theorem gX5_append_X5_rest : GoodIn wsX5_append (wsV RX5 15 RX5 yX5_rest wsX5_rest) := goodIn_app (goodIn_of _ (by decide +kernel)) ggX5_append_X5_rest
set_option maxRecDepth 20000 in
theorem ggX5_append_J13_numberOfTrailingZeros_95d88 : GoodIn wsX5_append wsJ13_numberOfTrailingZeros_95d88 := goodIn_r _ [15, 16, 17, 18, 19, 20] (by decide +kernel) (by decide +kernel)
set_option maxRecDepth 20000 in
theorem gX5_append_J13_numberOfTrailingZeros_95d88 : GoodIn wsX5_append (va_wsS RX5 19 yJ13_numberOfTrailingZeros_95d88 wsJ13_numberOfTrailingZeros_95d88) := goodIn_app (goodIn_of _ (by decide +kernel)) ggX5_append_J13_numberOfTrailingZeros_95d88
theorem dX5_append_0 : decode cX5_append 0 = .ok (.aload_n 0, 1) := by decide +kernel
theorem dX5_append_1 : decode cX5_append 1 = .ok (.lload_n 1, 1) := by decide +kernel
theorem dX5_append_2 : decode cX5_append 2 = .ok (.invokevirtual 15, 3) := by decide +kernel
theorem dX5_append_5 : decode cX5_append 5 = .ok (.lstore_n 3, 1) := by decide +kernel
theorem dX5_append_6 : decode cX5_append 6 = .ok (.lload_n 3, 1) := by decide +kernel
theorem dX5_append_7 : decode cX5_append 7 = .ok (.lconst 0, 1) := by decide +kernel
theorem dX5_append_8 : decode cX5_append 8 = .ok (.lcmp, 1) := by decide +kernel
theorem dX5_append_9 : decode cX5_append 9 = .ok (.ifCond .eq 23, 3) := by decide +kernel
theorem dX5_append_12 : decode cX5_append 12 = .ok (.aload_n 0, 1) := by decide +kernel
theorem dX5_append_13 : decode cX5_append 13 = .ok (.getfield 9, 3) := by decide +kernel
theorem dX5_append_16 : decode cX5_append 16 = .ok (.lload_n 3, 1) := by decide +kernel
theorem dX5_append_17 : decode cX5_append 17 = .ok (.invokestatic 19, 3) := by decide +kernel
theorem dX5_append_20 : decode cX5_append 20 = .ok (.lload_n 3, 1) := by decide +kernel
theorem dX5_append_21 : decode cX5_append 21 = .ok (.lastore, 1) := by decide +kernel
theorem dX5_append_22 : decode cX5_append 22 = .ok (.aload_n 0, 1) := by decide +kernel
theorem dX5_append_23 : decode cX5_append 23 = .ok (.dup, 1) := by decide +kernel
theorem dX5_append_24 : decode cX5_append 24 = .ok (.getfield 25, 3) := by decide +kernel
theorem dX5_append_27 : decode cX5_append 27 = .ok (.iconst 1, 1) := by decide +kernel
theorem dX5_append_28 : decode cX5_append 28 = .ok (.iadd, 1) := by decide +kernel
theorem dX5_append_29 : decode cX5_append 29 = .ok (.putfield 25, 3) := by decide +kernel
theorem dX5_append_32 : decode cX5_append 32 = .ok (.aload_n 0, 1) := by decide +kernel
theorem dX5_append_33 : decode cX5_append 33 = .ok (.dup, 1) := by decide +kernel
theorem dX5_append_34 : decode cX5_append 34 = .ok (.getfield 29, 3) := by decide +kernel
theorem dX5_append_37 : decode cX5_append 37 = .ok (.iconst 1, 1) := by decide +kernel
theorem dX5_append_38 : decode cX5_append 38 = .ok (.iadd, 1) := by decide +kernel
theorem dX5_append_39 : decode cX5_append 39 = .ok (.putfield 29, 3) := by decide +kernel
theorem dX5_append_42 : decode cX5_append 42 = .ok (.aload_n 0, 1) := by decide +kernel
theorem dX5_append_43 : decode cX5_append 43 = .ok (.getfield 29, 3) := by decide +kernel
theorem dX5_append_46 : decode cX5_append 46 = .ok (.ireturn, 1) := by decide +kernel
set_option maxRecDepth 20000 in
theorem ggX5_empty_J7_fill_d0a16 : GoodIn wsX5_empty wsJ7_fill_d0a16 := goodIn_r _ [7] (by decide +kernel) (by decide +kernel)
set_option maxRecDepth 20000 in
theorem gX5_empty_J7_fill_d0a16 : GoodIn wsX5_empty (va_wsS RX5 32 yJ7_fill_d0a16 wsJ7_fill_d0a16) := goodIn_app (goodIn_of _ (by decide +kernel)) ggX5_empty_J7_fill_d0a16
theorem dX5_empty_0 : decode cX5_empty 0 = .ok (.aload_n 0, 1) := by decide +kernel
theorem dX5_empty_1 : decode cX5_empty 1 = .ok (.iconst 0, 1) := by decide +kernel
theorem dX5_empty_2 : decode cX5_empty 2 = .ok (.putfield 29, 3) := by decide +kernel
theorem dX5_empty_5 : decode cX5_empty 5 = .ok (.aload_n 0, 1) := by decide +kernel
theorem dX5_empty_6 : decode cX5_empty 6 = .ok (.iconst 0, 1) := by decide +kernel
theorem dX5_empty_7 : decode cX5_empty 7 = .ok (.putfield 25, 3) := by decide +kernel
theorem dX5_empty_10 : decode cX5_empty 10 = .ok (.aload_n 0, 1) := by decide +kernel
theorem dX5_empty_11 : decode cX5_empty 11 = .ok (.getfield 9, 3) := by decide +kernel
theorem dX5_empty_14 : decode cX5_empty 14 = .ok (.lconst 0, 1) := by decide +kernel
theorem dX5_empty_15 : decode cX5_empty 15 = .ok (.invokestatic 32, 3) := by decide +kernel
theorem dX5_empty_18 : decode cX5_empty 18 = .ok (.return_, 1) := by decide +kernel
set_option maxRecDepth 20000 in
theorem ggX5_rest_X7_has : GoodIn wsX5_rest wsX7_has := goodIn_r _ [4] (by decide +kernel) (by decide +kernel)
set_option maxRecDepth 20000 in
theorem gX5_rest_X7_has_n38 : GoodIn wsX5_rest (wsX7_has) := ggX5_rest_X7_has
theorem dX5_rest_0 : decode cX5_rest 0 = .ok (.lload_n 1, 1) := by decide +kernel
theorem dX5_rest_1 : decode cX5_rest 1 = .ok (.lstore_n 3, 1) := by decide +kernel
theorem dX5_rest_2 : decode cX5_rest 2 = .ok (.iconst 0, 1) := by decide +kernel
theorem dX5_rest_3 : decode cX5_rest 3 = .ok (.istore 5, 2) := by decide +kernel
theorem dX5_rest_5 : decode cX5_rest 5 = .ok (.iload 5, 2) := by decide +kernel
theorem dX5_rest_7 : decode cX5_rest 7 = .ok (.bipush 40, 2) := by decide +kernel
theorem dX5_rest_9 : decode cX5_rest 9 = .ok (.if_icmp .ge 28, 3) := by decide +kernel
theorem dX5_rest_12 : decode cX5_rest 12 = .ok (.lload_n 3, 1) := by decide +kernel
theorem dX5_rest_13 : decode cX5_rest 13 = .ok (.iload 5, 2) := by decide +kernel
theorem dX5_rest_15 : decode cX5_rest 15 = .ok (.invokestatic 38, 3) := by decide +kernel
theorem dX5_rest_18 : decode cX5_rest 18 = .ok (.ifCond .eq 13, 3) := by decide +kernel
theorem dX5_rest_21 : decode cX5_rest 21 = .ok (.lload_n 3, 1) := by decide +kernel
theorem dX5_rest_22 : decode cX5_rest 22 = .ok (.aload_n 0, 1) := by decide +kernel
theorem dX5_rest_23 : decode cX5_rest 23 = .ok (.getfield 9, 3) := by decide +kernel
theorem dX5_rest_26 : decode cX5_rest 26 = .ok (.iload 5, 2) := by decide +kernel
theorem dX5_rest_28 : decode cX5_rest 28 = .ok (.laload, 1) := by decide +kernel
theorem dX5_rest_29 : decode cX5_rest 29 = .ok (.lxor, 1) := by decide +kernel
theorem dX5_rest_30 : decode cX5_rest 30 = .ok (.lstore_n 3, 1) := by decide +kernel
theorem dX5_rest_31 : decode cX5_rest 31 = .ok (.iinc 5 1, 3) := by decide +kernel
theorem dX5_rest_34 : decode cX5_rest 34 = .ok (.goto (-29), 3) := by decide +kernel
theorem dX5_rest_37 : decode cX5_rest 37 = .ok (.lload_n 3, 1) := by decide +kernel
theorem dX5_rest_38 : decode cX5_rest 38 = .ok (.lreturn, 1) := by decide +kernel
theorem dX6_init_0 : decode cX6_init 0 = .ok (.aload_n 0, 1) := by decide +kernel
theorem dX6_init_1 : decode cX6_init 1 = .ok (.invokespecial 3, 3) := by decide +kernel
theorem dX6_init_4 : decode cX6_init 4 = .ok (.aload_n 0, 1) := by decide +kernel
theorem dX6_init_5 : decode cX6_init 5 = .ok (.bipush 16, 2) := by decide +kernel
theorem dX6_init_7 : decode cX6_init 7 = .ok (.newarray .long, 2) := by decide +kernel
theorem dX6_init_9 : decode cX6_init 9 = .ok (.putfield 9, 3) := by decide +kernel
theorem dX6_init_12 : decode cX6_init 12 = .ok (.aload_n 0, 1) := by decide +kernel
theorem dX6_init_13 : decode cX6_init 13 = .ok (.bipush 16, 2) := by decide +kernel
theorem dX6_init_15 : decode cX6_init 15 = .ok (.newarray .long, 2) := by decide +kernel
theorem dX6_init_17 : decode cX6_init 17 = .ok (.putfield 15, 3) := by decide +kernel
theorem dX6_init_20 : decode cX6_init 20 = .ok (.return_, 1) := by decide +kernel
set_option maxRecDepth 20000 in
theorem ggX6_seek_X6_shortenAll : GoodIn wsX6_seek wsX6_shortenAll := goodIn_r _ [8, 9, 10, 11, 7, 12, 1, 3, 13, 14, 15, 16, 17, 18, 19] (by decide +kernel) (by decide +kernel)
set_option maxRecDepth 20000 in
theorem gX6_seek_X6_shortenAll : GoodIn wsX6_seek (wsV RX6 26 RX6 yX6_shortenAll wsX6_shortenAll) := goodIn_app (goodIn_of _ (by decide +kernel)) ggX6_seek_X6_shortenAll
theorem dX6_seek_0 : decode cX6_seek 0 = .ok (.iconst 0, 1) := by decide +kernel
theorem dX6_seek_1 : decode cX6_seek 1 = .ok (.istore 4, 2) := by decide +kernel
theorem dX6_seek_3 : decode cX6_seek 3 = .ok (.iload 4, 2) := by decide +kernel
theorem dX6_seek_5 : decode cX6_seek 5 = .ok (.aload_n 1, 1) := by decide +kernel
theorem dX6_seek_6 : decode cX6_seek 6 = .ok (.getfield 18, 3) := by decide +kernel
theorem dX6_seek_9 : decode cX6_seek 9 = .ok (.if_icmp .ge 27, 3) := by decide +kernel
theorem dX6_seek_12 : decode cX6_seek 12 = .ok (.aload_n 0, 1) := by decide +kernel
theorem dX6_seek_13 : decode cX6_seek 13 = .ok (.getfield 9, 3) := by decide +kernel
theorem dX6_seek_16 : decode cX6_seek 16 = .ok (.iload 4, 2) := by decide +kernel
theorem dX6_seek_18 : decode cX6_seek 18 = .ok (.ldc2_w 24, 3) := by decide +kernel
theorem dX6_seek_21 : decode cX6_seek 21 = .ok (.lastore, 1) := by decide +kernel
theorem dX6_seek_22 : decode cX6_seek 22 = .ok (.aload_n 0, 1) := by decide +kernel
theorem dX6_seek_23 : decode cX6_seek 23 = .ok (.getfield 15, 3) := by decide +kernel
theorem dX6_seek_26 : decode cX6_seek 26 = .ok (.iload 4, 2) := by decide +kernel
theorem dX6_seek_28 : decode cX6_seek 28 = .ok (.lconst 0, 1) := by decide +kernel
theorem dX6_seek_29 : decode cX6_seek 29 = .ok (.lastore, 1) := by decide +kernel
theorem dX6_seek_30 : decode cX6_seek 30 = .ok (.iinc 4 1, 3) := by decide +kernel
theorem dX6_seek_33 : decode cX6_seek 33 = .ok (.goto (-30), 3) := by decide +kernel
theorem dX6_seek_36 : decode cX6_seek 36 = .ok (.aload_n 0, 1) := by decide +kernel
theorem dX6_seek_37 : decode cX6_seek 37 = .ok (.getfield 9, 3) := by decide +kernel
theorem dX6_seek_40 : decode cX6_seek 40 = .ok (.iload_n 2, 1) := by decide +kernel
theorem dX6_seek_41 : decode cX6_seek 41 = .ok (.lconst 0, 1) := by decide +kernel
theorem dX6_seek_42 : decode cX6_seek 42 = .ok (.lastore, 1) := by decide +kernel
theorem dX6_seek_43 : decode cX6_seek 43 = .ok (.iconst 1, 1) := by decide +kernel
theorem dX6_seek_44 : decode cX6_seek 44 = .ok (.istore 4, 2) := by decide +kernel
theorem dX6_seek_46 : decode cX6_seek 46 = .ok (.iconst 1, 1) := by decide +kernel
theorem dX6_seek_47 : decode cX6_seek 47 = .ok (.istore 5, 2) := by decide +kernel
theorem dX6_seek_49 : decode cX6_seek 49 = .ok (.iload 5, 2) := by decide +kernel
theorem dX6_seek_51 : decode cX6_seek 51 = .ok (.aload_n 1, 1) := by decide +kernel
theorem dX6_seek_52 : decode cX6_seek 52 = .ok (.getfield 18, 3) := by decide +kernel
theorem dX6_seek_55 : decode cX6_seek 55 = .ok (.if_icmp .ge 22, 3) := by decide +kernel
theorem dX6_seek_58 : decode cX6_seek 58 = .ok (.iload 4, 2) := by decide +kernel
theorem dX6_seek_60 : decode cX6_seek 60 = .ok (.ifCond .eq 17, 3) := by decide +kernel
theorem dX6_seek_63 : decode cX6_seek 63 = .ok (.aload_n 0, 1) := by decide +kernel
theorem dX6_seek_64 : decode cX6_seek 64 = .ok (.aload_n 1, 1) := by decide +kernel
theorem dX6_seek_65 : decode cX6_seek 65 = .ok (.iload_n 3, 1) := by decide +kernel
theorem dX6_seek_66 : decode cX6_seek 66 = .ok (.invokevirtual 26, 3) := by decide +kernel
theorem dX6_seek_69 : decode cX6_seek 69 = .ok (.istore 4, 2) := by decide +kernel
theorem dX6_seek_71 : decode cX6_seek 71 = .ok (.iinc 5 1, 3) := by decide +kernel
theorem dX6_seek_74 : decode cX6_seek 74 = .ok (.goto (-25), 3) := by decide +kernel
theorem dX6_seek_77 : decode cX6_seek 77 = .ok (.return_, 1) := by decide +kernel
theorem dX6_reaches_0 : decode cX6_reaches 0 = .ok (.aload_n 0, 1) := by decide +kernel
theorem dX6_reaches_1 : decode cX6_reaches 1 = .ok (.getfield 9, 3) := by decide +kernel
theorem dX6_reaches_4 : decode cX6_reaches 4 = .ok (.iload_n 1, 1) := by decide +kernel
theorem dX6_reaches_5 : decode cX6_reaches 5 = .ok (.laload, 1) := by decide +kernel
theorem dX6_reaches_6 : decode cX6_reaches 6 = .ok (.ldc2_w 24, 3) := by decide +kernel
theorem dX6_reaches_9 : decode cX6_reaches 9 = .ok (.lcmp, 1) := by decide +kernel
theorem dX6_reaches_10 : decode cX6_reaches 10 = .ok (.ifCond .ge 7, 3) := by decide +kernel
theorem dX6_reaches_13 : decode cX6_reaches 13 = .ok (.iconst 1, 1) := by decide +kernel
theorem dX6_reaches_14 : decode cX6_reaches 14 = .ok (.goto 4, 3) := by decide +kernel
theorem dX6_reaches_17 : decode cX6_reaches 17 = .ok (.iconst 0, 1) := by decide +kernel
theorem dX6_reaches_18 : decode cX6_reaches 18 = .ok (.ireturn, 1) := by decide +kernel
set_option maxRecDepth 20000 in
theorem ggX6_shortenAll_X6_shorten : GoodIn wsX6_shortenAll wsX6_shorten := goodIn_r _ [5, 6, 7, 13, 14] (by decide +kernel) (by decide +kernel)
set_option maxRecDepth 20000 in
theorem gX6_shortenAll_X6_shorten : GoodIn wsX6_shortenAll (wsV RX6 43 RX6 yX6_shorten wsX6_shorten) := goodIn_app (goodIn_of _ (by decide +kernel)) ggX6_shortenAll_X6_shorten
theorem dX6_shortenAll_0 : decode cX6_shortenAll 0 = .ok (.iconst 0, 1) := by decide +kernel
theorem dX6_shortenAll_1 : decode cX6_shortenAll 1 = .ok (.istore_n 3, 1) := by decide +kernel
theorem dX6_shortenAll_2 : decode cX6_shortenAll 2 = .ok (.iconst 0, 1) := by decide +kernel
theorem dX6_shortenAll_3 : decode cX6_shortenAll 3 = .ok (.istore 4, 2) := by decide +kernel
theorem dX6_shortenAll_5 : decode cX6_shortenAll 5 = .ok (.iload 4, 2) := by decide +kernel
theorem dX6_shortenAll_7 : decode cX6_shortenAll 7 = .ok (.aload_n 1, 1) := by decide +kernel
theorem dX6_shortenAll_8 : decode cX6_shortenAll 8 = .ok (.getfield 30, 3) := by decide +kernel
theorem dX6_shortenAll_11 : decode cX6_shortenAll 11 = .ok (.if_icmp .ge 73, 3) := by decide +kernel
theorem dX6_shortenAll_14 : decode cX6_shortenAll 14 = .ok (.iload 4, 2) := by decide +kernel
theorem dX6_shortenAll_16 : decode cX6_shortenAll 16 = .ok (.iload_n 2, 1) := by decide +kernel
theorem dX6_shortenAll_17 : decode cX6_shortenAll 17 = .ok (.if_icmp .eq 61, 3) := by decide +kernel
theorem dX6_shortenAll_20 : decode cX6_shortenAll 20 = .ok (.aload_n 1, 1) := by decide +kernel
theorem dX6_shortenAll_21 : decode cX6_shortenAll 21 = .ok (.getfield 33, 3) := by decide +kernel
theorem dX6_shortenAll_24 : decode cX6_shortenAll 24 = .ok (.iload 4, 2) := by decide +kernel
theorem dX6_shortenAll_26 : decode cX6_shortenAll 26 = .ok (.iaload, 1) := by decide +kernel
theorem dX6_shortenAll_27 : decode cX6_shortenAll 27 = .ok (.istore 5, 2) := by decide +kernel
theorem dX6_shortenAll_29 : decode cX6_shortenAll 29 = .ok (.aload_n 1, 1) := by decide +kernel
theorem dX6_shortenAll_30 : decode cX6_shortenAll 30 = .ok (.getfield 37, 3) := by decide +kernel
theorem dX6_shortenAll_33 : decode cX6_shortenAll 33 = .ok (.iload 4, 2) := by decide +kernel
theorem dX6_shortenAll_35 : decode cX6_shortenAll 35 = .ok (.iaload, 1) := by decide +kernel
theorem dX6_shortenAll_36 : decode cX6_shortenAll 36 = .ok (.istore 6, 2) := by decide +kernel
theorem dX6_shortenAll_38 : decode cX6_shortenAll 38 = .ok (.iload_n 3, 1) := by decide +kernel
theorem dX6_shortenAll_39 : decode cX6_shortenAll 39 = .ok (.aload_n 0, 1) := by decide +kernel
theorem dX6_shortenAll_40 : decode cX6_shortenAll 40 = .ok (.iload 5, 2) := by decide +kernel
theorem dX6_shortenAll_42 : decode cX6_shortenAll 42 = .ok (.iload 6, 2) := by decide +kernel
theorem dX6_shortenAll_44 : decode cX6_shortenAll 44 = .ok (.iload 4, 2) := by decide +kernel
theorem dX6_shortenAll_46 : decode cX6_shortenAll 46 = .ok (.aload_n 1, 1) := by decide +kernel
theorem dX6_shortenAll_47 : decode cX6_shortenAll 47 = .ok (.getfield 40, 3) := by decide +kernel
theorem dX6_shortenAll_50 : decode cX6_shortenAll 50 = .ok (.iload 4, 2) := by decide +kernel
theorem dX6_shortenAll_52 : decode cX6_shortenAll 52 = .ok (.iaload, 1) := by decide +kernel
theorem dX6_shortenAll_53 : decode cX6_shortenAll 53 = .ok (.invokevirtual 43, 3) := by decide +kernel
theorem dX6_shortenAll_56 : decode cX6_shortenAll 56 = .ok (.ior, 1) := by decide +kernel
theorem dX6_shortenAll_57 : decode cX6_shortenAll 57 = .ok (.istore_n 3, 1) := by decide +kernel
theorem dX6_shortenAll_58 : decode cX6_shortenAll 58 = .ok (.iload_n 3, 1) := by decide +kernel
theorem dX6_shortenAll_59 : decode cX6_shortenAll 59 = .ok (.aload_n 0, 1) := by decide +kernel
theorem dX6_shortenAll_60 : decode cX6_shortenAll 60 = .ok (.iload 6, 2) := by decide +kernel
theorem dX6_shortenAll_62 : decode cX6_shortenAll 62 = .ok (.iload 5, 2) := by decide +kernel
theorem dX6_shortenAll_64 : decode cX6_shortenAll 64 = .ok (.iload 4, 2) := by decide +kernel
theorem dX6_shortenAll_66 : decode cX6_shortenAll 66 = .ok (.aload_n 1, 1) := by decide +kernel
theorem dX6_shortenAll_67 : decode cX6_shortenAll 67 = .ok (.getfield 40, 3) := by decide +kernel
theorem dX6_shortenAll_70 : decode cX6_shortenAll 70 = .ok (.iload 4, 2) := by decide +kernel
theorem dX6_shortenAll_72 : decode cX6_shortenAll 72 = .ok (.iaload, 1) := by decide +kernel
theorem dX6_shortenAll_73 : decode cX6_shortenAll 73 = .ok (.invokevirtual 43, 3) := by decide +kernel
theorem dX6_shortenAll_76 : decode cX6_shortenAll 76 = .ok (.ior, 1) := by decide +kernel
theorem dX6_shortenAll_77 : decode cX6_shortenAll 77 = .ok (.istore_n 3, 1) := by decide +kernel
theorem dX6_shortenAll_78 : decode cX6_shortenAll 78 = .ok (.iinc 4 1, 3) := by decide +kernel
theorem dX6_shortenAll_81 : decode cX6_shortenAll 81 = .ok (.goto (-76), 3) := by decide +kernel
theorem dX6_shortenAll_84 : decode cX6_shortenAll 84 = .ok (.iload_n 3, 1) := by decide +kernel
theorem dX6_shortenAll_85 : decode cX6_shortenAll 85 = .ok (.ireturn, 1) := by decide +kernel
theorem dX6_shorten_0 : decode cX6_shorten 0 = .ok (.aload_n 0, 1) := by decide +kernel
theorem dX6_shorten_1 : decode cX6_shorten 1 = .ok (.getfield 9, 3) := by decide +kernel
theorem dX6_shorten_4 : decode cX6_shorten 4 = .ok (.iload_n 1, 1) := by decide +kernel
theorem dX6_shorten_5 : decode cX6_shorten 5 = .ok (.laload, 1) := by decide +kernel
theorem dX6_shorten_6 : decode cX6_shorten 6 = .ok (.iload 4, 2) := by decide +kernel
theorem dX6_shorten_8 : decode cX6_shorten 8 = .ok (.i2l, 1) := by decide +kernel
theorem dX6_shorten_9 : decode cX6_shorten 9 = .ok (.ladd, 1) := by decide +kernel
theorem dX6_shorten_10 : decode cX6_shorten 10 = .ok (.aload_n 0, 1) := by decide +kernel
theorem dX6_shorten_11 : decode cX6_shorten 11 = .ok (.getfield 9, 3) := by decide +kernel
theorem dX6_shorten_14 : decode cX6_shorten 14 = .ok (.iload_n 2, 1) := by decide +kernel
theorem dX6_shorten_15 : decode cX6_shorten 15 = .ok (.laload, 1) := by decide +kernel
theorem dX6_shorten_16 : decode cX6_shorten 16 = .ok (.lcmp, 1) := by decide +kernel
theorem dX6_shorten_17 : decode cX6_shorten 17 = .ok (.ifCond .lt 5, 3) := by decide +kernel
theorem dX6_shorten_20 : decode cX6_shorten 20 = .ok (.iconst 0, 1) := by decide +kernel
theorem dX6_shorten_21 : decode cX6_shorten 21 = .ok (.ireturn, 1) := by decide +kernel
theorem dX6_shorten_22 : decode cX6_shorten 22 = .ok (.aload_n 0, 1) := by decide +kernel
theorem dX6_shorten_23 : decode cX6_shorten 23 = .ok (.getfield 9, 3) := by decide +kernel
theorem dX6_shorten_26 : decode cX6_shorten 26 = .ok (.iload_n 2, 1) := by decide +kernel
theorem dX6_shorten_27 : decode cX6_shorten 27 = .ok (.aload_n 0, 1) := by decide +kernel
theorem dX6_shorten_28 : decode cX6_shorten 28 = .ok (.getfield 9, 3) := by decide +kernel
theorem dX6_shorten_31 : decode cX6_shorten 31 = .ok (.iload_n 1, 1) := by decide +kernel
theorem dX6_shorten_32 : decode cX6_shorten 32 = .ok (.laload, 1) := by decide +kernel
theorem dX6_shorten_33 : decode cX6_shorten 33 = .ok (.iload 4, 2) := by decide +kernel
theorem dX6_shorten_35 : decode cX6_shorten 35 = .ok (.i2l, 1) := by decide +kernel
theorem dX6_shorten_36 : decode cX6_shorten 36 = .ok (.ladd, 1) := by decide +kernel
theorem dX6_shorten_37 : decode cX6_shorten 37 = .ok (.lastore, 1) := by decide +kernel
theorem dX6_shorten_38 : decode cX6_shorten 38 = .ok (.aload_n 0, 1) := by decide +kernel
theorem dX6_shorten_39 : decode cX6_shorten 39 = .ok (.getfield 15, 3) := by decide +kernel
theorem dX6_shorten_42 : decode cX6_shorten 42 = .ok (.iload_n 2, 1) := by decide +kernel
theorem dX6_shorten_43 : decode cX6_shorten 43 = .ok (.aload_n 0, 1) := by decide +kernel
theorem dX6_shorten_44 : decode cX6_shorten 44 = .ok (.getfield 15, 3) := by decide +kernel
theorem dX6_shorten_47 : decode cX6_shorten 47 = .ok (.iload_n 1, 1) := by decide +kernel
theorem dX6_shorten_48 : decode cX6_shorten 48 = .ok (.laload, 1) := by decide +kernel
theorem dX6_shorten_49 : decode cX6_shorten 49 = .ok (.lconst 1, 1) := by decide +kernel
theorem dX6_shorten_50 : decode cX6_shorten 50 = .ok (.iload_n 3, 1) := by decide +kernel
theorem dX6_shorten_51 : decode cX6_shorten 51 = .ok (.lshl, 1) := by decide +kernel
theorem dX6_shorten_52 : decode cX6_shorten 52 = .ok (.lxor, 1) := by decide +kernel
theorem dX6_shorten_53 : decode cX6_shorten 53 = .ok (.lastore, 1) := by decide +kernel
theorem dX6_shorten_54 : decode cX6_shorten 54 = .ok (.iconst 1, 1) := by decide +kernel
theorem dX6_shorten_55 : decode cX6_shorten 55 = .ok (.ireturn, 1) := by decide +kernel
set_option maxRecDepth 20000 in
theorem ggX7_init_X2_init : GoodIn wsX7_init wsX2_init := goodIn_r _ [36, 37, 2, 3, 38, 39, 40, 41, 42, 80, 81, 82, 83, 84] (by decide +kernel) (by decide +kernel)
set_option maxRecDepth 20000 in
theorem gX7_init_X2_init : GoodIn wsX7_init (wsX2_init) := ggX7_init_X2_init
set_option maxRecDepth 20000 in
theorem ggX7_init_X5_init : GoodIn wsX7_init wsX5_init := goodIn_r _ [45, 46, 2, 3, 32, 47, 93, 94, 95] (by decide +kernel) (by decide +kernel)
set_option maxRecDepth 20000 in
theorem gX7_init_X5_init : GoodIn wsX7_init (wsX5_init) := ggX7_init_X5_init
set_option maxRecDepth 20000 in
theorem ggX7_init_X3_init : GoodIn wsX7_init wsX3_init := goodIn_r _ [50, 51, 2, 3, 39, 52, 32, 53, 96, 97, 98, 99] (by decide +kernel) (by decide +kernel)
set_option maxRecDepth 20000 in
theorem gX7_init_X3_init : GoodIn wsX7_init (wsX3_init) := ggX7_init_X3_init
set_option maxRecDepth 20000 in
theorem ggX7_init_X6_init : GoodIn wsX7_init wsX6_init := goodIn_r _ [56, 57, 2, 3, 32, 58, 59, 100, 101] (by decide +kernel) (by decide +kernel)
set_option maxRecDepth 20000 in
theorem gX7_init_X6_init : GoodIn wsX7_init (wsX6_init) := ggX7_init_X6_init
set_option maxRecDepth 20000 in
theorem ggX7_init_X4_init : GoodIn wsX7_init wsX4_init := goodIn_r _ [62, 63, 2, 3, 32, 64, 65, 66, 67, 102, 103, 104, 105, 106, 107] (by decide +kernel) (by decide +kernel)
set_option maxRecDepth 20000 in
theorem gX7_init_X4_init : GoodIn wsX7_init (wsX4_init) := ggX7_init_X4_init
set_option maxRecDepth 20000 in
theorem ggX7_init_X1_init : GoodIn wsX7_init wsX1_init := goodIn_r _ [70, 71, 2, 3, 72, 32, 73, 108] (by decide +kernel) (by decide +kernel)
set_option maxRecDepth 20000 in
theorem gX7_init_X1_init : GoodIn wsX7_init (wsX1_init) := ggX7_init_X1_init
set_option maxRecDepth 20000 in
theorem ggX7_init_X0_init : GoodIn wsX7_init wsX0_init := goodIn_r _ [76, 77, 2, 3, 78, 39, 79, 109] (by decide +kernel) (by decide +kernel)
set_option maxRecDepth 20000 in
theorem gX7_init_X0_init : GoodIn wsX7_init (wsX0_init) := ggX7_init_X0_init
theorem dX7_init_0 : decode cX7_init 0 = .ok (.aload_n 0, 1) := by decide +kernel
theorem dX7_init_1 : decode cX7_init 1 = .ok (.invokespecial 1, 3) := by decide +kernel
theorem dX7_init_4 : decode cX7_init 4 = .ok (.aload_n 0, 1) := by decide +kernel
theorem dX7_init_5 : decode cX7_init 5 = .ok (.new 7, 3) := by decide +kernel
theorem dX7_init_8 : decode cX7_init 8 = .ok (.dup, 1) := by decide +kernel
theorem dX7_init_9 : decode cX7_init 9 = .ok (.invokespecial 9, 3) := by decide +kernel
theorem dX7_init_12 : decode cX7_init 12 = .ok (.putfield 10, 3) := by decide +kernel
theorem dX7_init_15 : decode cX7_init 15 = .ok (.aload_n 0, 1) := by decide +kernel
theorem dX7_init_16 : decode cX7_init 16 = .ok (.new 16, 3) := by decide +kernel
theorem dX7_init_19 : decode cX7_init 19 = .ok (.dup, 1) := by decide +kernel
theorem dX7_init_20 : decode cX7_init 20 = .ok (.invokespecial 18, 3) := by decide +kernel
theorem dX7_init_23 : decode cX7_init 23 = .ok (.putfield 19, 3) := by decide +kernel
theorem dX7_init_26 : decode cX7_init 26 = .ok (.aload_n 0, 1) := by decide +kernel
theorem dX7_init_27 : decode cX7_init 27 = .ok (.new 23, 3) := by decide +kernel
theorem dX7_init_30 : decode cX7_init 30 = .ok (.dup, 1) := by decide +kernel
theorem dX7_init_31 : decode cX7_init 31 = .ok (.invokespecial 25, 3) := by decide +kernel
theorem dX7_init_34 : decode cX7_init 34 = .ok (.putfield 26, 3) := by decide +kernel
theorem dX7_init_37 : decode cX7_init 37 = .ok (.aload_n 0, 1) := by decide +kernel
theorem dX7_init_38 : decode cX7_init 38 = .ok (.new 30, 3) := by decide +kernel
theorem dX7_init_41 : decode cX7_init 41 = .ok (.dup, 1) := by decide +kernel
theorem dX7_init_42 : decode cX7_init 42 = .ok (.invokespecial 32, 3) := by decide +kernel
theorem dX7_init_45 : decode cX7_init 45 = .ok (.putfield 33, 3) := by decide +kernel
theorem dX7_init_48 : decode cX7_init 48 = .ok (.aload_n 0, 1) := by decide +kernel
theorem dX7_init_49 : decode cX7_init 49 = .ok (.new 37, 3) := by decide +kernel
theorem dX7_init_52 : decode cX7_init 52 = .ok (.dup, 1) := by decide +kernel
theorem dX7_init_53 : decode cX7_init 53 = .ok (.invokespecial 39, 3) := by decide +kernel
theorem dX7_init_56 : decode cX7_init 56 = .ok (.putfield 40, 3) := by decide +kernel
theorem dX7_init_59 : decode cX7_init 59 = .ok (.aload_n 0, 1) := by decide +kernel
theorem dX7_init_60 : decode cX7_init 60 = .ok (.new 44, 3) := by decide +kernel
theorem dX7_init_63 : decode cX7_init 63 = .ok (.dup, 1) := by decide +kernel
theorem dX7_init_64 : decode cX7_init 64 = .ok (.invokespecial 46, 3) := by decide +kernel
theorem dX7_init_67 : decode cX7_init 67 = .ok (.putfield 47, 3) := by decide +kernel
theorem dX7_init_70 : decode cX7_init 70 = .ok (.aload_n 0, 1) := by decide +kernel
theorem dX7_init_71 : decode cX7_init 71 = .ok (.new 51, 3) := by decide +kernel
theorem dX7_init_74 : decode cX7_init 74 = .ok (.dup, 1) := by decide +kernel
theorem dX7_init_75 : decode cX7_init 75 = .ok (.invokespecial 53, 3) := by decide +kernel
theorem dX7_init_78 : decode cX7_init 78 = .ok (.putfield 54, 3) := by decide +kernel
theorem dX7_init_81 : decode cX7_init 81 = .ok (.aload_n 0, 1) := by decide +kernel
theorem dX7_init_82 : decode cX7_init 82 = .ok (.bipush 14, 2) := by decide +kernel
theorem dX7_init_84 : decode cX7_init 84 = .ok (.newarray .long, 2) := by decide +kernel
theorem dX7_init_86 : decode cX7_init 86 = .ok (.putfield 58, 3) := by decide +kernel
theorem dX7_init_89 : decode cX7_init 89 = .ok (.return_, 1) := by decide +kernel
set_option maxRecDepth 20000 in
theorem ggX7_reset_X2_begin : GoodIn wsX7_reset wsX2_begin := goodIn_r _ [8, 9, 10, 19, 20, 21, 22, 23] (by decide +kernel) (by decide +kernel)
set_option maxRecDepth 20000 in
theorem gX7_reset_X2_begin : GoodIn wsX7_reset (wsV RX7 73 RX2 yX2_begin wsX2_begin) := goodIn_app (goodIn_of _ (by decide +kernel)) ggX7_reset_X2_begin
theorem dX7_reset_0 : decode cX7_reset 0 = .ok (.iload_n 1, 1) := by decide +kernel
theorem dX7_reset_1 : decode cX7_reset 1 = .ok (.iconst 1, 1) := by decide +kernel
theorem dX7_reset_2 : decode cX7_reset 2 = .ok (.if_icmp .lt 9, 3) := by decide +kernel
theorem dX7_reset_5 : decode cX7_reset 5 = .ok (.iload_n 1, 1) := by decide +kernel
theorem dX7_reset_6 : decode cX7_reset 6 = .ok (.bipush 16, 2) := by decide +kernel
theorem dX7_reset_8 : decode cX7_reset 8 = .ok (.if_icmp .le 13, 3) := by decide +kernel
theorem dX7_reset_11 : decode cX7_reset 11 = .ok (.new 62, 3) := by decide +kernel
theorem dX7_reset_14 : decode cX7_reset 14 = .ok (.dup, 1) := by decide +kernel
theorem dX7_reset_15 : decode cX7_reset 15 = .ok (.ldc 64, 2) := by decide +kernel
theorem dX7_reset_17 : decode cX7_reset 17 = .ok (.invokespecial 66, 3) := by decide +kernel
theorem dX7_reset_20 : decode cX7_reset 20 = .ok (.athrow, 1) := by decide +kernel
theorem dX7_reset_21 : decode cX7_reset 21 = .ok (.aload_n 0, 1) := by decide +kernel
theorem dX7_reset_22 : decode cX7_reset 22 = .ok (.getfield 10, 3) := by decide +kernel
theorem dX7_reset_25 : decode cX7_reset 25 = .ok (.getfield 69, 3) := by decide +kernel
theorem dX7_reset_28 : decode cX7_reset 28 = .ok (.istore_n 2, 1) := by decide +kernel
theorem dX7_reset_29 : decode cX7_reset 29 = .ok (.aload_n 0, 1) := by decide +kernel
theorem dX7_reset_30 : decode cX7_reset 30 = .ok (.getfield 10, 3) := by decide +kernel
theorem dX7_reset_33 : decode cX7_reset 33 = .ok (.iload_n 1, 1) := by decide +kernel
theorem dX7_reset_34 : decode cX7_reset 34 = .ok (.invokevirtual 73, 3) := by decide +kernel
theorem dX7_reset_37 : decode cX7_reset 37 = .ok (.iload_n 2, 1) := by decide +kernel
theorem dX7_reset_38 : decode cX7_reset 38 = .ok (.ireturn, 1) := by decide +kernel
set_option maxRecDepth 20000 in
theorem ggX7_edge_X2_hasVertex : GoodIn wsX7_edge wsX2_hasVertex := goodIn_r _ [12, 13, 64, 65, 66, 67, 68] (by decide +kernel) (by decide +kernel)
set_option maxRecDepth 20000 in
theorem gX7_edge_X2_hasVertex : GoodIn wsX7_edge (wsV RX7 77 RX2 yX2_hasVertex wsX2_hasVertex) := goodIn_app (goodIn_of _ (by decide +kernel)) ggX7_edge_X2_hasVertex
set_option maxRecDepth 20000 in
theorem ggX7_edge_X7_joinWhole : GoodIn wsX7_edge wsX7_joinWhole := goodIn_r _ [18, 5, 19, 20, 21, 17, 22, 7, 23, 24, 25, 26, 27, 28, 29, 30, 31, 32, 33, 34, 35, 36, 37, 38, 39, 40, 41, 42, 43, 44, 45, 46, 56, 57, 58, 59, 60, 61, 62, 63, 64, 65, 66, 67, 68, 69, 70, 71, 72] (by decide +kernel) (by decide +kernel)
set_option maxRecDepth 20000 in
theorem gX7_edge_X7_joinWhole : GoodIn wsX7_edge (wsV RX7 91 RX7 yX7_joinWhole wsX7_joinWhole) := goodIn_app (goodIn_of _ (by decide +kernel)) ggX7_edge_X7_joinWhole
set_option maxRecDepth 20000 in
theorem ggX7_edge_X3_together : GoodIn wsX7_edge wsX3_together := goodIn_r _ [42, 30, 69, 70, 71, 72] (by decide +kernel) (by decide +kernel)
set_option maxRecDepth 20000 in
theorem gX7_edge_X3_together : GoodIn wsX7_edge (wsV RX7 95 RX3 yX3_together wsX3_together) := goodIn_app (goodIn_of _ (by decide +kernel)) ggX7_edge_X3_together
set_option maxRecDepth 20000 in
theorem ggX7_edge_X2_append : GoodIn wsX7_edge wsX2_append := goodIn_r _ [51, 52, 53, 54, 55, 64, 65, 66, 67, 68] (by decide +kernel) (by decide +kernel)
set_option maxRecDepth 20000 in
theorem gX7_edge_X2_append : GoodIn wsX7_edge (wsV RX7 101 RX2 yX2_append wsX2_append) := goodIn_app (goodIn_of _ (by decide +kernel)) ggX7_edge_X2_append
theorem dX7_edge_0 : decode cX7_edge 0 = .ok (.aload_n 0, 1) := by decide +kernel
theorem dX7_edge_1 : decode cX7_edge 1 = .ok (.getfield 10, 3) := by decide +kernel
theorem dX7_edge_4 : decode cX7_edge 4 = .ok (.iload_n 1, 1) := by decide +kernel
theorem dX7_edge_5 : decode cX7_edge 5 = .ok (.invokevirtual 77, 3) := by decide +kernel
theorem dX7_edge_8 : decode cX7_edge 8 = .ok (.ifCond .eq 14, 3) := by decide +kernel
theorem dX7_edge_11 : decode cX7_edge 11 = .ok (.aload_n 0, 1) := by decide +kernel
theorem dX7_edge_12 : decode cX7_edge 12 = .ok (.getfield 10, 3) := by decide +kernel
theorem dX7_edge_15 : decode cX7_edge 15 = .ok (.iload_n 2, 1) := by decide +kernel
theorem dX7_edge_16 : decode cX7_edge 16 = .ok (.invokevirtual 77, 3) := by decide +kernel
theorem dX7_edge_19 : decode cX7_edge 19 = .ok (.ifCond .ne 13, 3) := by decide +kernel
theorem dX7_edge_22 : decode cX7_edge 22 = .ok (.new 62, 3) := by decide +kernel
theorem dX7_edge_25 : decode cX7_edge 25 = .ok (.dup, 1) := by decide +kernel
theorem dX7_edge_26 : decode cX7_edge 26 = .ok (.ldc 81, 2) := by decide +kernel
theorem dX7_edge_28 : decode cX7_edge 28 = .ok (.invokespecial 66, 3) := by decide +kernel
theorem dX7_edge_31 : decode cX7_edge 31 = .ok (.athrow, 1) := by decide +kernel
theorem dX7_edge_32 : decode cX7_edge 32 = .ok (.iload_n 3, 1) := by decide +kernel
theorem dX7_edge_33 : decode cX7_edge 33 = .ok (.ifCond .lt 9, 3) := by decide +kernel
theorem dX7_edge_36 : decode cX7_edge 36 = .ok (.iload_n 3, 1) := by decide +kernel
theorem dX7_edge_37 : decode cX7_edge 37 = .ok (.ldc 83, 2) := by decide +kernel
theorem dX7_edge_39 : decode cX7_edge 39 = .ok (.if_icmp .le 13, 3) := by decide +kernel
theorem dX7_edge_42 : decode cX7_edge 42 = .ok (.new 62, 3) := by decide +kernel
theorem dX7_edge_45 : decode cX7_edge 45 = .ok (.dup, 1) := by decide +kernel
theorem dX7_edge_46 : decode cX7_edge 46 = .ok (.ldc 84, 2) := by decide +kernel
theorem dX7_edge_48 : decode cX7_edge 48 = .ok (.invokespecial 66, 3) := by decide +kernel
theorem dX7_edge_51 : decode cX7_edge 51 = .ok (.athrow, 1) := by decide +kernel
theorem dX7_edge_52 : decode cX7_edge 52 = .ok (.aload_n 0, 1) := by decide +kernel
theorem dX7_edge_53 : decode cX7_edge 53 = .ok (.getfield 10, 3) := by decide +kernel
theorem dX7_edge_56 : decode cX7_edge 56 = .ok (.getfield 69, 3) := by decide +kernel
theorem dX7_edge_59 : decode cX7_edge 59 = .ok (.bipush 40, 2) := by decide +kernel
theorem dX7_edge_61 : decode cX7_edge 61 = .ok (.if_icmp .lt 13, 3) := by decide +kernel
theorem dX7_edge_64 : decode cX7_edge 64 = .ok (.new 86, 3) := by decide +kernel
theorem dX7_edge_67 : decode cX7_edge 67 = .ok (.dup, 1) := by decide +kernel
theorem dX7_edge_68 : decode cX7_edge 68 = .ok (.ldc 88, 2) := by decide +kernel
theorem dX7_edge_70 : decode cX7_edge 70 = .ok (.invokespecial 90, 3) := by decide +kernel
theorem dX7_edge_73 : decode cX7_edge 73 = .ok (.athrow, 1) := by decide +kernel
theorem dX7_edge_74 : decode cX7_edge 74 = .ok (.aload_n 0, 1) := by decide +kernel
theorem dX7_edge_75 : decode cX7_edge 75 = .ok (.invokevirtual 91, 3) := by decide +kernel
theorem dX7_edge_78 : decode cX7_edge 78 = .ok (.bipush 14, 2) := by decide +kernel
theorem dX7_edge_80 : decode cX7_edge 80 = .ok (.if_icmp .lt 25, 3) := by decide +kernel
theorem dX7_edge_83 : decode cX7_edge 83 = .ok (.aload_n 0, 1) := by decide +kernel
theorem dX7_edge_84 : decode cX7_edge 84 = .ok (.getfield 26, 3) := by decide +kernel
theorem dX7_edge_87 : decode cX7_edge 87 = .ok (.iload_n 1, 1) := by decide +kernel

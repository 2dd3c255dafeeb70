theorem dX8_forests_204 : decode cX8_forests 204 = .ok (.invokevirtual 99, 3) := by decide +kernel
theorem dX8_forests_207 : decode cX8_forests 207 = .ok (.iinc 4 1, 3) := by decide +kernel
theorem dX8_forests_210 : decode cX8_forests 210 = .ok (.goto (-68), 3) := by decide +kernel
theorem dX8_forests_213 : decode cX8_forests 213 = .ok (.aload_n 0, 1) := by decide +kernel
theorem dX8_forests_214 : decode cX8_forests 214 = .ok (.iload_n 3, 1) := by decide +kernel
theorem dX8_forests_215 : decode cX8_forests 215 = .ok (.invokevirtual 103, 3) := by decide +kernel
theorem dX8_forests_218 : decode cX8_forests 218 = .ok (.lreturn, 1) := by decide +kernel
set_option maxRecDepth 20000 in
theorem ggX8_isFirst_X8_hang : GoodIn wsX8_isFirst wsX8_hang := goodIn_r _ [6, 7, 8, 9, 10, 11, 12, 13, 14, 15, 16, 17, 18, 19, 20, 21, 22, 23, 24, 25, 26, 27, 28, 29, 30, 31] (by decide +kernel) (by decide +kernel)
set_option maxRecDepth 20000 in
theorem gX8_isFirst_X8_hang : GoodIn wsX8_isFirst (wsV RX8 107 RX8 yX8_hang wsX8_hang) := goodIn_app (goodIn_of _ (by decide +kernel)) ggX8_isFirst_X8_hang
theorem dX8_isFirst_0 : decode cX8_isFirst 0 = .ok (.iconst 1, 1) := by decide +kernel
theorem dX8_isFirst_1 : decode cX8_isFirst 1 = .ok (.istore_n 2, 1) := by decide +kernel
theorem dX8_isFirst_2 : decode cX8_isFirst 2 = .ok (.iconst 0, 1) := by decide +kernel
theorem dX8_isFirst_3 : decode cX8_isFirst 3 = .ok (.istore_n 3, 1) := by decide +kernel
theorem dX8_isFirst_4 : decode cX8_isFirst 4 = .ok (.iload_n 3, 1) := by decide +kernel
theorem dX8_isFirst_5 : decode cX8_isFirst 5 = .ok (.iload_n 1, 1) := by decide +kernel
theorem dX8_isFirst_6 : decode cX8_isFirst 6 = .ok (.if_icmp .ge 38, 3) := by decide +kernel
theorem dX8_isFirst_9 : decode cX8_isFirst 9 = .ok (.iload_n 2, 1) := by decide +kernel
theorem dX8_isFirst_10 : decode cX8_isFirst 10 = .ok (.ifCond .eq 26, 3) := by decide +kernel
theorem dX8_isFirst_13 : decode cX8_isFirst 13 = .ok (.aload_n 0, 1) := by decide +kernel
theorem dX8_isFirst_14 : decode cX8_isFirst 14 = .ok (.getfield 27, 3) := by decide +kernel
theorem dX8_isFirst_17 : decode cX8_isFirst 17 = .ok (.iload_n 3, 1) := by decide +kernel
theorem dX8_isFirst_18 : decode cX8_isFirst 18 = .ok (.iaload, 1) := by decide +kernel
theorem dX8_isFirst_19 : decode cX8_isFirst 19 = .ok (.iload_n 3, 1) := by decide +kernel
theorem dX8_isFirst_20 : decode cX8_isFirst 20 = .ok (.if_icmp .ne 12, 3) := by decide +kernel
theorem dX8_isFirst_23 : decode cX8_isFirst 23 = .ok (.aload_n 0, 1) := by decide +kernel
theorem dX8_isFirst_24 : decode cX8_isFirst 24 = .ok (.iload_n 3, 1) := by decide +kernel
theorem dX8_isFirst_25 : decode cX8_isFirst 25 = .ok (.iload_n 1, 1) := by decide +kernel
theorem dX8_isFirst_26 : decode cX8_isFirst 26 = .ok (.invokevirtual 107, 3) := by decide +kernel
theorem dX8_isFirst_29 : decode cX8_isFirst 29 = .ok (.ifCond .ne 7, 3) := by decide +kernel
theorem dX8_isFirst_32 : decode cX8_isFirst 32 = .ok (.iconst 1, 1) := by decide +kernel
theorem dX8_isFirst_33 : decode cX8_isFirst 33 = .ok (.goto 4, 3) := by decide +kernel
theorem dX8_isFirst_36 : decode cX8_isFirst 36 = .ok (.iconst 0, 1) := by decide +kernel
theorem dX8_isFirst_37 : decode cX8_isFirst 37 = .ok (.istore_n 2, 1) := by decide +kernel
theorem dX8_isFirst_38 : decode cX8_isFirst 38 = .ok (.iinc 3 1, 3) := by decide +kernel
theorem dX8_isFirst_41 : decode cX8_isFirst 41 = .ok (.goto (-37), 3) := by decide +kernel
theorem dX8_isFirst_44 : decode cX8_isFirst 44 = .ok (.iload_n 2, 1) := by decide +kernel
theorem dX8_isFirst_45 : decode cX8_isFirst 45 = .ok (.ireturn, 1) := by decide +kernel
theorem dX8_hang_0 : decode cX8_hang 0 = .ok (.iconst 0, 1) := by decide +kernel
theorem dX8_hang_1 : decode cX8_hang 1 = .ok (.istore_n 3, 1) := by decide +kernel
theorem dX8_hang_2 : decode cX8_hang 2 = .ok (.iload_n 3, 1) := by decide +kernel
theorem dX8_hang_3 : decode cX8_hang 3 = .ok (.aload_n 0, 1) := by decide +kernel
theorem dX8_hang_4 : decode cX8_hang 4 = .ok (.getfield 7, 3) := by decide +kernel
theorem dX8_hang_7 : decode cX8_hang 7 = .ok (.if_icmp .ge 25, 3) := by decide +kernel
theorem dX8_hang_10 : decode cX8_hang 10 = .ok (.aload_n 0, 1) := by decide +kernel
theorem dX8_hang_11 : decode cX8_hang 11 = .ok (.getfield 54, 3) := by decide +kernel
theorem dX8_hang_14 : decode cX8_hang 14 = .ok (.iload_n 3, 1) := by decide +kernel
theorem dX8_hang_15 : decode cX8_hang 15 = .ok (.iload_n 3, 1) := by decide +kernel
theorem dX8_hang_16 : decode cX8_hang 16 = .ok (.iload_n 1, 1) := by decide +kernel
theorem dX8_hang_17 : decode cX8_hang 17 = .ok (.if_icmp .ne 7, 3) := by decide +kernel
theorem dX8_hang_20 : decode cX8_hang 20 = .ok (.iconst 1, 1) := by decide +kernel
theorem dX8_hang_21 : decode cX8_hang 21 = .ok (.goto 4, 3) := by decide +kernel
theorem dX8_hang_24 : decode cX8_hang 24 = .ok (.iconst 0, 1) := by decide +kernel
theorem dX8_hang_25 : decode cX8_hang 25 = .ok (.bastore, 1) := by decide +kernel
theorem dX8_hang_26 : decode cX8_hang 26 = .ok (.iinc 3 1, 3) := by decide +kernel
theorem dX8_hang_29 : decode cX8_hang 29 = .ok (.goto (-27), 3) := by decide +kernel
theorem dX8_hang_32 : decode cX8_hang 32 = .ok (.iconst 1, 1) := by decide +kernel
theorem dX8_hang_33 : decode cX8_hang 33 = .ok (.istore_n 3, 1) := by decide +kernel
theorem dX8_hang_34 : decode cX8_hang 34 = .ok (.iload_n 3, 1) := by decide +kernel
theorem dX8_hang_35 : decode cX8_hang 35 = .ok (.ifCond .eq 84, 3) := by decide +kernel
theorem dX8_hang_38 : decode cX8_hang 38 = .ok (.iconst 0, 1) := by decide +kernel
theorem dX8_hang_39 : decode cX8_hang 39 = .ok (.istore_n 3, 1) := by decide +kernel
theorem dX8_hang_40 : decode cX8_hang 40 = .ok (.iconst 0, 1) := by decide +kernel
theorem dX8_hang_41 : decode cX8_hang 41 = .ok (.istore 4, 2) := by decide +kernel
theorem dX8_hang_43 : decode cX8_hang 43 = .ok (.iload 4, 2) := by decide +kernel
theorem dX8_hang_45 : decode cX8_hang 45 = .ok (.aload_n 0, 1) := by decide +kernel
theorem dX8_hang_46 : decode cX8_hang 46 = .ok (.getfield 61, 3) := by decide +kernel
theorem dX8_hang_49 : decode cX8_hang 49 = .ok (.if_icmp .ge 67, 3) := by decide +kernel
theorem dX8_hang_52 : decode cX8_hang 52 = .ok (.aload_n 0, 1) := by decide +kernel
theorem dX8_hang_53 : decode cX8_hang 53 = .ok (.getfield 54, 3) := by decide +kernel
theorem dX8_hang_56 : decode cX8_hang 56 = .ok (.aload_n 0, 1) := by decide +kernel
theorem dX8_hang_57 : decode cX8_hang 57 = .ok (.getfield 13, 3) := by decide +kernel
theorem dX8_hang_60 : decode cX8_hang 60 = .ok (.iload 4, 2) := by decide +kernel
theorem dX8_hang_62 : decode cX8_hang 62 = .ok (.iaload, 1) := by decide +kernel
theorem dX8_hang_63 : decode cX8_hang 63 = .ok (.baload, 1) := by decide +kernel
theorem dX8_hang_64 : decode cX8_hang 64 = .ok (.aload_n 0, 1) := by decide +kernel
theorem dX8_hang_65 : decode cX8_hang 65 = .ok (.getfield 54, 3) := by decide +kernel
theorem dX8_hang_68 : decode cX8_hang 68 = .ok (.aload_n 0, 1) := by decide +kernel
theorem dX8_hang_69 : decode cX8_hang 69 = .ok (.getfield 17, 3) := by decide +kernel
theorem dX8_hang_72 : decode cX8_hang 72 = .ok (.iload 4, 2) := by decide +kernel
theorem dX8_hang_74 : decode cX8_hang 74 = .ok (.iaload, 1) := by decide +kernel
theorem dX8_hang_75 : decode cX8_hang 75 = .ok (.baload, 1) := by decide +kernel
theorem dX8_hang_76 : decode cX8_hang 76 = .ok (.if_icmp .ne 6, 3) := by decide +kernel
theorem dX8_hang_79 : decode cX8_hang 79 = .ok (.goto 31, 3) := by decide +kernel
theorem dX8_hang_82 : decode cX8_hang 82 = .ok (.aload_n 0, 1) := by decide +kernel
theorem dX8_hang_83 : decode cX8_hang 83 = .ok (.getfield 54, 3) := by decide +kernel
theorem dX8_hang_86 : decode cX8_hang 86 = .ok (.aload_n 0, 1) := by decide +kernel
theorem dX8_hang_87 : decode cX8_hang 87 = .ok (.getfield 13, 3) := by decide +kernel
theorem dX8_hang_90 : decode cX8_hang 90 = .ok (.iload 4, 2) := by decide +kernel
theorem dX8_hang_92 : decode cX8_hang 92 = .ok (.iaload, 1) := by decide +kernel
theorem dX8_hang_93 : decode cX8_hang 93 = .ok (.iconst 1, 1) := by decide +kernel
theorem dX8_hang_94 : decode cX8_hang 94 = .ok (.bastore, 1) := by decide +kernel
theorem dX8_hang_95 : decode cX8_hang 95 = .ok (.aload_n 0, 1) := by decide +kernel
theorem dX8_hang_96 : decode cX8_hang 96 = .ok (.getfield 54, 3) := by decide +kernel
theorem dX8_hang_99 : decode cX8_hang 99 = .ok (.aload_n 0, 1) := by decide +kernel
theorem dX8_hang_100 : decode cX8_hang 100 = .ok (.getfield 17, 3) := by decide +kernel
theorem dX8_hang_103 : decode cX8_hang 103 = .ok (.iload 4, 2) := by decide +kernel
theorem dX8_hang_105 : decode cX8_hang 105 = .ok (.iaload, 1) := by decide +kernel
theorem dX8_hang_106 : decode cX8_hang 106 = .ok (.iconst 1, 1) := by decide +kernel
theorem dX8_hang_107 : decode cX8_hang 107 = .ok (.bastore, 1) := by decide +kernel
theorem dX8_hang_108 : decode cX8_hang 108 = .ok (.iconst 1, 1) := by decide +kernel
theorem dX8_hang_109 : decode cX8_hang 109 = .ok (.istore_n 3, 1) := by decide +kernel
theorem dX8_hang_110 : decode cX8_hang 110 = .ok (.iinc 4 1, 3) := by decide +kernel
theorem dX8_hang_113 : decode cX8_hang 113 = .ok (.goto (-70), 3) := by decide +kernel
theorem dX8_hang_116 : decode cX8_hang 116 = .ok (.goto (-82), 3) := by decide +kernel
theorem dX8_hang_119 : decode cX8_hang 119 = .ok (.aload_n 0, 1) := by decide +kernel
theorem dX8_hang_120 : decode cX8_hang 120 = .ok (.getfield 54, 3) := by decide +kernel
theorem dX8_hang_123 : decode cX8_hang 123 = .ok (.iload_n 2, 1) := by decide +kernel
theorem dX8_hang_124 : decode cX8_hang 124 = .ok (.baload, 1) := by decide +kernel
theorem dX8_hang_125 : decode cX8_hang 125 = .ok (.ireturn, 1) := by decide +kernel
theorem dX8_lay_0 : decode cX8_lay 0 = .ok (.iload_n 1, 1) := by decide +kernel
theorem dX8_lay_1 : decode cX8_lay 1 = .ok (.ifCond .lt 16, 3) := by decide +kernel
theorem dX8_lay_4 : decode cX8_lay 4 = .ok (.aload_n 0, 1) := by decide +kernel
theorem dX8_lay_5 : decode cX8_lay 5 = .ok (.getfield 48, 3) := by decide +kernel
theorem dX8_lay_8 : decode cX8_lay 8 = .ok (.bipush 17, 2) := by decide +kernel
theorem dX8_lay_10 : decode cX8_lay 10 = .ok (.iload_n 1, 1) := by decide +kernel
theorem dX8_lay_11 : decode cX8_lay 11 = .ok (.imul, 1) := by decide +kernel
theorem dX8_lay_12 : decode cX8_lay 12 = .ok (.dup2, 1) := by decide +kernel
theorem dX8_lay_13 : decode cX8_lay 13 = .ok (.laload, 1) := by decide +kernel
theorem dX8_lay_14 : decode cX8_lay 14 = .ok (.lconst 1, 1) := by decide +kernel
theorem dX8_lay_15 : decode cX8_lay 15 = .ok (.ladd, 1) := by decide +kernel
theorem dX8_lay_16 : decode cX8_lay 16 = .ok (.lastore, 1) := by decide +kernel
theorem dX8_lay_17 : decode cX8_lay 17 = .ok (.iload_n 2, 1) := by decide +kernel
theorem dX8_lay_18 : decode cX8_lay 18 = .ok (.ifCond .lt 16, 3) := by decide +kernel
theorem dX8_lay_21 : decode cX8_lay 21 = .ok (.aload_n 0, 1) := by decide +kernel
theorem dX8_lay_22 : decode cX8_lay 22 = .ok (.getfield 48, 3) := by decide +kernel
theorem dX8_lay_25 : decode cX8_lay 25 = .ok (.bipush 17, 2) := by decide +kernel
theorem dX8_lay_27 : decode cX8_lay 27 = .ok (.iload_n 2, 1) := by decide +kernel
theorem dX8_lay_28 : decode cX8_lay 28 = .ok (.imul, 1) := by decide +kernel
theorem dX8_lay_29 : decode cX8_lay 29 = .ok (.dup2, 1) := by decide +kernel
theorem dX8_lay_30 : decode cX8_lay 30 = .ok (.laload, 1) := by decide +kernel
theorem dX8_lay_31 : decode cX8_lay 31 = .ok (.lconst 1, 1) := by decide +kernel
theorem dX8_lay_32 : decode cX8_lay 32 = .ok (.ladd, 1) := by decide +kernel
theorem dX8_lay_33 : decode cX8_lay 33 = .ok (.lastore, 1) := by decide +kernel
theorem dX8_lay_34 : decode cX8_lay 34 = .ok (.iload_n 1, 1) := by decide +kernel
theorem dX8_lay_35 : decode cX8_lay 35 = .ok (.ifCond .lt 7, 3) := by decide +kernel
theorem dX8_lay_38 : decode cX8_lay 38 = .ok (.iload_n 2, 1) := by decide +kernel
theorem dX8_lay_39 : decode cX8_lay 39 = .ok (.ifCond .ge 4, 3) := by decide +kernel
theorem dX8_lay_42 : decode cX8_lay 42 = .ok (.return_, 1) := by decide +kernel
theorem dX8_lay_43 : decode cX8_lay 43 = .ok (.aload_n 0, 1) := by decide +kernel
theorem dX8_lay_44 : decode cX8_lay 44 = .ok (.getfield 48, 3) := by decide +kernel
theorem dX8_lay_47 : decode cX8_lay 47 = .ok (.bipush 16, 2) := by decide +kernel
theorem dX8_lay_49 : decode cX8_lay 49 = .ok (.iload_n 1, 1) := by decide +kernel
theorem dX8_lay_50 : decode cX8_lay 50 = .ok (.imul, 1) := by decide +kernel
theorem dX8_lay_51 : decode cX8_lay 51 = .ok (.iload_n 2, 1) := by decide +kernel
theorem dX8_lay_52 : decode cX8_lay 52 = .ok (.iadd, 1) := by decide +kernel
theorem dX8_lay_53 : decode cX8_lay 53 = .ok (.dup2, 1) := by decide +kernel
theorem dX8_lay_54 : decode cX8_lay 54 = .ok (.laload, 1) := by decide +kernel
theorem dX8_lay_55 : decode cX8_lay 55 = .ok (.lconst 1, 1) := by decide +kernel
theorem dX8_lay_56 : decode cX8_lay 56 = .ok (.lsub, 1) := by decide +kernel
theorem dX8_lay_57 : decode cX8_lay 57 = .ok (.lastore, 1) := by decide +kernel
theorem dX8_lay_58 : decode cX8_lay 58 = .ok (.aload_n 0, 1) := by decide +kernel
theorem dX8_lay_59 : decode cX8_lay 59 = .ok (.getfield 48, 3) := by decide +kernel
theorem dX8_lay_62 : decode cX8_lay 62 = .ok (.bipush 16, 2) := by decide +kernel
theorem dX8_lay_64 : decode cX8_lay 64 = .ok (.iload_n 2, 1) := by decide +kernel
theorem dX8_lay_65 : decode cX8_lay 65 = .ok (.imul, 1) := by decide +kernel
theorem dX8_lay_66 : decode cX8_lay 66 = .ok (.iload_n 1, 1) := by decide +kernel
theorem dX8_lay_67 : decode cX8_lay 67 = .ok (.iadd, 1) := by decide +kernel
theorem dX8_lay_68 : decode cX8_lay 68 = .ok (.dup2, 1) := by decide +kernel
theorem dX8_lay_69 : decode cX8_lay 69 = .ok (.laload, 1) := by decide +kernel
theorem dX8_lay_70 : decode cX8_lay 70 = .ok (.lconst 1, 1) := by decide +kernel
theorem dX8_lay_71 : decode cX8_lay 71 = .ok (.lsub, 1) := by decide +kernel
theorem dX8_lay_72 : decode cX8_lay 72 = .ok (.lastore, 1) := by decide +kernel
theorem dX8_lay_73 : decode cX8_lay 73 = .ok (.return_, 1) := by decide +kernel
theorem dX8_determinant_0 : decode cX8_determinant 0 = .ok (.lconst 1, 1) := by decide +kernel
theorem dX8_determinant_1 : decode cX8_determinant 1 = .ok (.lstore_n 2, 1) := by decide +kernel
theorem dX8_determinant_2 : decode cX8_determinant 2 = .ok (.iconst 0, 1) := by decide +kernel
theorem dX8_determinant_3 : decode cX8_determinant 3 = .ok (.istore 4, 2) := by decide +kernel
theorem dX8_determinant_5 : decode cX8_determinant 5 = .ok (.iload 4, 2) := by decide +kernel
theorem dX8_determinant_7 : decode cX8_determinant 7 = .ok (.iload_n 1, 1) := by decide +kernel
theorem dX8_determinant_8 : decode cX8_determinant 8 = .ok (.if_icmp .ge 119, 3) := by decide +kernel
theorem dX8_determinant_11 : decode cX8_determinant 11 = .ok (.aload_n 0, 1) := by decide +kernel
theorem dX8_determinant_12 : decode cX8_determinant 12 = .ok (.getfield 48, 3) := by decide +kernel
theorem dX8_determinant_15 : decode cX8_determinant 15 = .ok (.bipush 17, 2) := by decide +kernel
theorem dX8_determinant_17 : decode cX8_determinant 17 = .ok (.iload 4, 2) := by decide +kernel
theorem dX8_determinant_19 : decode cX8_determinant 19 = .ok (.imul, 1) := by decide +kernel
theorem dX8_determinant_20 : decode cX8_determinant 20 = .ok (.laload, 1) := by decide +kernel
theorem dX8_determinant_21 : decode cX8_determinant 21 = .ok (.lstore 5, 2) := by decide +kernel
theorem dX8_determinant_23 : decode cX8_determinant 23 = .ok (.iload 4, 2) := by decide +kernel
theorem dX8_determinant_25 : decode cX8_determinant 25 = .ok (.iconst 1, 1) := by decide +kernel
theorem dX8_determinant_26 : decode cX8_determinant 26 = .ok (.iadd, 1) := by decide +kernel
theorem dX8_determinant_27 : decode cX8_determinant 27 = .ok (.istore 7, 2) := by decide +kernel
theorem dX8_determinant_29 : decode cX8_determinant 29 = .ok (.iload 7, 2) := by decide +kernel
theorem dX8_determinant_31 : decode cX8_determinant 31 = .ok (.iload_n 1, 1) := by decide +kernel
theorem dX8_determinant_32 : decode cX8_determinant 32 = .ok (.if_icmp .ge 86, 3) := by decide +kernel
theorem dX8_determinant_35 : decode cX8_determinant 35 = .ok (.iload 4, 2) := by decide +kernel
theorem dX8_determinant_37 : decode cX8_determinant 37 = .ok (.iconst 1, 1) := by decide +kernel
theorem dX8_determinant_38 : decode cX8_determinant 38 = .ok (.iadd, 1) := by decide +kernel
theorem dX8_determinant_39 : decode cX8_determinant 39 = .ok (.istore 8, 2) := by decide +kernel
theorem dX8_determinant_41 : decode cX8_determinant 41 = .ok (.iload 8, 2) := by decide +kernel
theorem dX8_determinant_43 : decode cX8_determinant 43 = .ok (.iload_n 1, 1) := by decide +kernel
theorem dX8_determinant_44 : decode cX8_determinant 44 = .ok (.if_icmp .ge 68, 3) := by decide +kernel
theorem dX8_determinant_47 : decode cX8_determinant 47 = .ok (.aload_n 0, 1) := by decide +kernel
theorem dX8_determinant_48 : decode cX8_determinant 48 = .ok (.getfield 48, 3) := by decide +kernel
theorem dX8_determinant_51 : decode cX8_determinant 51 = .ok (.bipush 16, 2) := by decide +kernel
theorem dX8_determinant_53 : decode cX8_determinant 53 = .ok (.iload 7, 2) := by decide +kernel
theorem dX8_determinant_55 : decode cX8_determinant 55 = .ok (.imul, 1) := by decide +kernel
theorem dX8_determinant_56 : decode cX8_determinant 56 = .ok (.iload 8, 2) := by decide +kernel
theorem dX8_determinant_58 : decode cX8_determinant 58 = .ok (.iadd, 1) := by decide +kernel
theorem dX8_determinant_59 : decode cX8_determinant 59 = .ok (.aload_n 0, 1) := by decide +kernel
theorem dX8_determinant_60 : decode cX8_determinant 60 = .ok (.getfield 48, 3) := by decide +kernel
theorem dX8_determinant_63 : decode cX8_determinant 63 = .ok (.bipush 16, 2) := by decide +kernel
theorem dX8_determinant_65 : decode cX8_determinant 65 = .ok (.iload 7, 2) := by decide +kernel
theorem dX8_determinant_67 : decode cX8_determinant 67 = .ok (.imul, 1) := by decide +kernel
theorem dX8_determinant_68 : decode cX8_determinant 68 = .ok (.iload 8, 2) := by decide +kernel
theorem dX8_determinant_70 : decode cX8_determinant 70 = .ok (.iadd, 1) := by decide +kernel
theorem dX8_determinant_71 : decode cX8_determinant 71 = .ok (.laload, 1) := by decide +kernel
theorem dX8_determinant_72 : decode cX8_determinant 72 = .ok (.lload 5, 2) := by decide +kernel
theorem dX8_determinant_74 : decode cX8_determinant 74 = .ok (.lmul, 1) := by decide +kernel
theorem dX8_determinant_75 : decode cX8_determinant 75 = .ok (.aload_n 0, 1) := by decide +kernel
theorem dX8_determinant_76 : decode cX8_determinant 76 = .ok (.getfield 48, 3) := by decide +kernel
theorem dX8_determinant_79 : decode cX8_determinant 79 = .ok (.bipush 16, 2) := by decide +kernel
theorem dX8_determinant_81 : decode cX8_determinant 81 = .ok (.iload 7, 2) := by decide +kernel
theorem dX8_determinant_83 : decode cX8_determinant 83 = .ok (.imul, 1) := by decide +kernel
theorem dX8_determinant_84 : decode cX8_determinant 84 = .ok (.iload 4, 2) := by decide +kernel
theorem dX8_determinant_86 : decode cX8_determinant 86 = .ok (.iadd, 1) := by decide +kernel
theorem dX8_determinant_87 : decode cX8_determinant 87 = .ok (.laload, 1) := by decide +kernel
theorem dX8_determinant_88 : decode cX8_determinant 88 = .ok (.aload_n 0, 1) := by decide +kernel
theorem dX8_determinant_89 : decode cX8_determinant 89 = .ok (.getfield 48, 3) := by decide +kernel
theorem dX8_determinant_92 : decode cX8_determinant 92 = .ok (.bipush 16, 2) := by decide +kernel
theorem dX8_determinant_94 : decode cX8_determinant 94 = .ok (.iload 4, 2) := by decide +kernel
theorem dX8_determinant_96 : decode cX8_determinant 96 = .ok (.imul, 1) := by decide +kernel
theorem dX8_determinant_97 : decode cX8_determinant 97 = .ok (.iload 8, 2) := by decide +kernel
theorem dX8_determinant_99 : decode cX8_determinant 99 = .ok (.iadd, 1) := by decide +kernel
theorem dX8_determinant_100 : decode cX8_determinant 100 = .ok (.laload, 1) := by decide +kernel
theorem dX8_determinant_101 : decode cX8_determinant 101 = .ok (.lmul, 1) := by decide +kernel
theorem dX8_determinant_102 : decode cX8_determinant 102 = .ok (.lsub, 1) := by decide +kernel
theorem dX8_determinant_103 : decode cX8_determinant 103 = .ok (.lload_n 2, 1) := by decide +kernel
theorem dX8_determinant_104 : decode cX8_determinant 104 = .ok (.ldiv, 1) := by decide +kernel
theorem dX8_determinant_105 : decode cX8_determinant 105 = .ok (.lastore, 1) := by decide +kernel
theorem dX8_determinant_106 : decode cX8_determinant 106 = .ok (.iinc 8 1, 3) := by decide +kernel
theorem dX8_determinant_109 : decode cX8_determinant 109 = .ok (.goto (-68), 3) := by decide +kernel
theorem dX8_determinant_112 : decode cX8_determinant 112 = .ok (.iinc 7 1, 3) := by decide +kernel
theorem dX8_determinant_115 : decode cX8_determinant 115 = .ok (.goto (-86), 3) := by decide +kernel
theorem dX8_determinant_118 : decode cX8_determinant 118 = .ok (.lload 5, 2) := by decide +kernel
theorem dX8_determinant_120 : decode cX8_determinant 120 = .ok (.lstore_n 2, 1) := by decide +kernel
theorem dX8_determinant_121 : decode cX8_determinant 121 = .ok (.iinc 4 1, 3) := by decide +kernel
theorem dX8_determinant_124 : decode cX8_determinant 124 = .ok (.goto (-119), 3) := by decide +kernel
theorem dX8_determinant_127 : decode cX8_determinant 127 = .ok (.lload_n 2, 1) := by decide +kernel
theorem dX8_determinant_128 : decode cX8_determinant 128 = .ok (.lreturn, 1) := by decide +kernel
set_option maxRecDepth 20000 in
theorem ggX8_lightest_X8_isSet : GoodIn wsX8_lightest wsX8_isSet := goodIn_r _ [11, 2, 38, 39, 40, 41, 42, 43, 44, 45, 46, 47, 48, 49, 50, 51, 52, 53, 54, 55, 56, 57] (by decide +kernel) (by decide +kernel)
set_option maxRecDepth 20000 in
theorem gX8_lightest_X8_isSet : GoodIn wsX8_lightest (wsV RX8 89 RX8 yX8_isSet wsX8_isSet) := goodIn_app (goodIn_of _ (by decide +kernel)) ggX8_lightest_X8_isSet
set_option maxRecDepth 20000 in
theorem ggX8_lightest_X8_throwing : GoodIn wsX8_lightest wsX8_throwing := goodIn_r _ [15, 16, 38, 39, 40, 41, 42, 43, 44, 45, 46, 47, 48, 49, 50, 51, 52, 53, 54, 55, 56, 57] (by decide +kernel) (by decide +kernel)
set_option maxRecDepth 20000 in
theorem gX8_lightest_X8_throwing : GoodIn wsX8_lightest (wsV RX8 78 RX8 yX8_throwing wsX8_throwing) := goodIn_app (goodIn_of _ (by decide +kernel)) ggX8_lightest_X8_throwing
set_option maxRecDepth 20000 in
theorem ggX8_lightest_X8_beginsWith : GoodIn wsX8_lightest wsX8_beginsWith := goodIn_r _ [20, 2, 21, 22, 23, 10, 24, 25, 3, 26, 27, 28, 29, 30, 4, 5, 31, 32, 33, 38, 39, 40, 41, 42, 43, 44, 45, 46, 47, 48, 49, 50, 51, 52, 53, 54, 55, 56, 57] (by decide +kernel) (by decide +kernel)
set_option maxRecDepth 20000 in
theorem gX8_lightest_X8_beginsWith : GoodIn wsX8_lightest (wsV RX8 93 RX8 yX8_beginsWith wsX8_beginsWith) := goodIn_app (goodIn_of _ (by decide +kernel)) ggX8_lightest_X8_beginsWith
set_option maxRecDepth 20000 in
theorem ggX8_lightest_X8_weightOf : GoodIn wsX8_lightest wsX8_weightOf := goodIn_r _ [37, 2, 6, 38, 39, 40, 41, 42, 43, 44, 45, 46, 47, 48, 49, 50, 51, 52, 53, 54, 55, 56, 57] (by decide +kernel) (by decide +kernel)
set_option maxRecDepth 20000 in
theorem gX8_lightest_X8_weightOf : GoodIn wsX8_lightest (wsV RX8 113 RX8 yX8_weightOf wsX8_weightOf) := goodIn_app (goodIn_of _ (by decide +kernel)) ggX8_lightest_X8_weightOf
set_option maxRecDepth 20000 in
theorem ggX8_lightest_X8_joins : GoodIn wsX8_lightest wsX8_joins := goodIn_r _ [30, 4, 5, 3, 31, 25, 26, 32, 33, 38, 39, 40, 41, 42, 43, 44, 45, 46, 47, 48, 49, 50, 51, 52, 53, 54, 55, 56, 57] (by decide +kernel) (by decide +kernel)
set_option maxRecDepth 20000 in
theorem gX8_lightest_X8_joins : GoodIn wsX8_lightest (wsV RX8 70 RX8 yX8_joins wsX8_joins) := goodIn_app (goodIn_of _ (by decide +kernel)) ggX8_lightest_X8_joins
theorem dX8_lightest_0 : decode cX8_lightest 0 = .ok (.aload_n 0, 1) := by decide +kernel
theorem dX8_lightest_1 : decode cX8_lightest 1 = .ok (.aload_n 0, 1) := by decide +kernel
theorem dX8_lightest_2 : decode cX8_lightest 2 = .ok (.lload_n 1, 1) := by decide +kernel
theorem dX8_lightest_3 : decode cX8_lightest 3 = .ok (.invokevirtual 89, 3) := by decide +kernel
theorem dX8_lightest_6 : decode cX8_lightest 6 = .ok (.ifCond .ne 7, 3) := by decide +kernel
theorem dX8_lightest_9 : decode cX8_lightest 9 = .ok (.iconst 1, 1) := by decide +kernel
theorem dX8_lightest_10 : decode cX8_lightest 10 = .ok (.goto 4, 3) := by decide +kernel
theorem dX8_lightest_13 : decode cX8_lightest 13 = .ok (.iconst 0, 1) := by decide +kernel
theorem dX8_lightest_14 : decode cX8_lightest 14 = .ok (.iconst 0, 1) := by decide +kernel
theorem dX8_lightest_15 : decode cX8_lightest 15 = .ok (.invokevirtual 78, 3) := by decide +kernel
theorem dX8_lightest_18 : decode cX8_lightest 18 = .ok (.ifCond .eq 5, 3) := by decide +kernel
theorem dX8_lightest_21 : decode cX8_lightest 21 = .ok (.lconst 0, 1) := by decide +kernel
theorem dX8_lightest_22 : decode cX8_lightest 22 = .ok (.lreturn, 1) := by decide +kernel
theorem dX8_lightest_23 : decode cX8_lightest 23 = .ok (.aload_n 0, 1) := by decide +kernel
theorem dX8_lightest_24 : decode cX8_lightest 24 = .ok (.lload_n 1, 1) := by decide +kernel
theorem dX8_lightest_25 : decode cX8_lightest 25 = .ok (.invokevirtual 93, 3) := by decide +kernel
theorem dX8_lightest_28 : decode cX8_lightest 28 = .ok (.ifCond .ne 7, 3) := by decide +kernel
theorem dX8_lightest_31 : decode cX8_lightest 31 = .ok (.ldc2_w 111, 3) := by decide +kernel
theorem dX8_lightest_34 : decode cX8_lightest 34 = .ok (.lreturn, 1) := by decide +kernel
theorem dX8_lightest_35 : decode cX8_lightest 35 = .ok (.aload_n 0, 1) := by decide +kernel
theorem dX8_lightest_36 : decode cX8_lightest 36 = .ok (.lload_n 1, 1) := by decide +kernel
theorem dX8_lightest_37 : decode cX8_lightest 37 = .ok (.invokevirtual 113, 3) := by decide +kernel
theorem dX8_lightest_40 : decode cX8_lightest 40 = .ok (.lstore_n 3, 1) := by decide +kernel
theorem dX8_lightest_41 : decode cX8_lightest 41 = .ok (.iconst 1, 1) := by decide +kernel
theorem dX8_lightest_42 : decode cX8_lightest 42 = .ok (.istore 5, 2) := by decide +kernel
theorem dX8_lightest_44 : decode cX8_lightest 44 = .ok (.iload 5, 2) := by decide +kernel
theorem dX8_lightest_46 : decode cX8_lightest 46 = .ok (.ifCond .eq 124, 3) := by decide +kernel
theorem dX8_lightest_49 : decode cX8_lightest 49 = .ok (.iconst (-1), 1) := by decide +kernel
theorem dX8_lightest_50 : decode cX8_lightest 50 = .ok (.istore 6, 2) := by decide +kernel
theorem dX8_lightest_52 : decode cX8_lightest 52 = .ok (.iconst 0, 1) := by decide +kernel
theorem dX8_lightest_53 : decode cX8_lightest 53 = .ok (.istore 7, 2) := by decide +kernel
theorem dX8_lightest_55 : decode cX8_lightest 55 = .ok (.iload 7, 2) := by decide +kernel
theorem dX8_lightest_57 : decode cX8_lightest 57 = .ok (.aload_n 0, 1) := by decide +kernel
theorem dX8_lightest_58 : decode cX8_lightest 58 = .ok (.getfield 61, 3) := by decide +kernel
theorem dX8_lightest_61 : decode cX8_lightest 61 = .ok (.if_icmp .ge 65, 3) := by decide +kernel
theorem dX8_lightest_64 : decode cX8_lightest 64 = .ok (.aload_n 0, 1) := by decide +kernel
theorem dX8_lightest_65 : decode cX8_lightest 65 = .ok (.getfield 27, 3) := by decide +kernel
theorem dX8_lightest_68 : decode cX8_lightest 68 = .ok (.aload_n 0, 1) := by decide +kernel
theorem dX8_lightest_69 : decode cX8_lightest 69 = .ok (.getfield 13, 3) := by decide +kernel
theorem dX8_lightest_72 : decode cX8_lightest 72 = .ok (.iload 7, 2) := by decide +kernel
theorem dX8_lightest_74 : decode cX8_lightest 74 = .ok (.iaload, 1) := by decide +kernel
theorem dX8_lightest_75 : decode cX8_lightest 75 = .ok (.iaload, 1) := by decide +kernel
theorem dX8_lightest_76 : decode cX8_lightest 76 = .ok (.aload_n 0, 1) := by decide +kernel
theorem dX8_lightest_77 : decode cX8_lightest 77 = .ok (.getfield 27, 3) := by decide +kernel
theorem dX8_lightest_80 : decode cX8_lightest 80 = .ok (.aload_n 0, 1) := by decide +kernel
theorem dX8_lightest_81 : decode cX8_lightest 81 = .ok (.getfield 17, 3) := by decide +kernel
theorem dX8_lightest_84 : decode cX8_lightest 84 = .ok (.iload 7, 2) := by decide +kernel
theorem dX8_lightest_86 : decode cX8_lightest 86 = .ok (.iaload, 1) := by decide +kernel
theorem dX8_lightest_87 : decode cX8_lightest 87 = .ok (.iaload, 1) := by decide +kernel
theorem dX8_lightest_88 : decode cX8_lightest 88 = .ok (.if_icmp .ne 6, 3) := by decide +kernel
theorem dX8_lightest_91 : decode cX8_lightest 91 = .ok (.goto 29, 3) := by decide +kernel
theorem dX8_lightest_94 : decode cX8_lightest 94 = .ok (.iload 6, 2) := by decide +kernel
theorem dX8_lightest_96 : decode cX8_lightest 96 = .ok (.ifCond .lt 20, 3) := by decide +kernel
theorem dX8_lightest_99 : decode cX8_lightest 99 = .ok (.aload_n 0, 1) := by decide +kernel
theorem dX8_lightest_100 : decode cX8_lightest 100 = .ok (.getfield 20, 3) := by decide +kernel
theorem dX8_lightest_103 : decode cX8_lightest 103 = .ok (.iload 7, 2) := by decide +kernel
theorem dX8_lightest_105 : decode cX8_lightest 105 = .ok (.iaload, 1) := by decide +kernel
theorem dX8_lightest_106 : decode cX8_lightest 106 = .ok (.aload_n 0, 1) := by decide +kernel
theorem dX8_lightest_107 : decode cX8_lightest 107 = .ok (.getfield 20, 3) := by decide +kernel
theorem dX8_lightest_110 : decode cX8_lightest 110 = .ok (.iload 6, 2) := by decide +kernel
theorem dX8_lightest_112 : decode cX8_lightest 112 = .ok (.iaload, 1) := by decide +kernel
theorem dX8_lightest_113 : decode cX8_lightest 113 = .ok (.if_icmp .ge 7, 3) := by decide +kernel
theorem dX8_lightest_116 : decode cX8_lightest 116 = .ok (.iload 7, 2) := by decide +kernel
theorem dX8_lightest_118 : decode cX8_lightest 118 = .ok (.istore 6, 2) := by decide +kernel
theorem dX8_lightest_120 : decode cX8_lightest 120 = .ok (.iinc 7 1, 3) := by decide +kernel
theorem dX8_lightest_123 : decode cX8_lightest 123 = .ok (.goto (-68), 3) := by decide +kernel
theorem dX8_lightest_126 : decode cX8_lightest 126 = .ok (.iload 6, 2) := by decide +kernel
theorem dX8_lightest_128 : decode cX8_lightest 128 = .ok (.ifCond .lt 16, 3) := by decide +kernel
theorem dX8_lightest_131 : decode cX8_lightest 131 = .ok (.aload_n 0, 1) := by decide +kernel
theorem dX8_lightest_132 : decode cX8_lightest 132 = .ok (.iload 6, 2) := by decide +kernel
theorem dX8_lightest_134 : decode cX8_lightest 134 = .ok (.invokevirtual 70, 3) := by decide +kernel
theorem dX8_lightest_137 : decode cX8_lightest 137 = .ok (.ifCond .eq 7, 3) := by decide +kernel
theorem dX8_lightest_140 : decode cX8_lightest 140 = .ok (.iconst 1, 1) := by decide +kernel
theorem dX8_lightest_141 : decode cX8_lightest 141 = .ok (.goto 4, 3) := by decide +kernel
theorem dX8_lightest_144 : decode cX8_lightest 144 = .ok (.iconst 0, 1) := by decide +kernel
theorem dX8_lightest_145 : decode cX8_lightest 145 = .ok (.istore 5, 2) := by decide +kernel
theorem dX8_lightest_147 : decode cX8_lightest 147 = .ok (.lload_n 3, 1) := by decide +kernel
theorem dX8_lightest_148 : decode cX8_lightest 148 = .ok (.iload 5, 2) := by decide +kernel
theorem dX8_lightest_150 : decode cX8_lightest 150 = .ok (.ifCond .eq 14, 3) := by decide +kernel
theorem dX8_lightest_153 : decode cX8_lightest 153 = .ok (.aload_n 0, 1) := by decide +kernel
theorem dX8_lightest_154 : decode cX8_lightest 154 = .ok (.getfield 20, 3) := by decide +kernel
theorem dX8_lightest_157 : decode cX8_lightest 157 = .ok (.iload 6, 2) := by decide +kernel
theorem dX8_lightest_159 : decode cX8_lightest 159 = .ok (.iaload, 1) := by decide +kernel
theorem dX8_lightest_160 : decode cX8_lightest 160 = .ok (.i2l, 1) := by decide +kernel
theorem dX8_lightest_161 : decode cX8_lightest 161 = .ok (.goto 4, 3) := by decide +kernel
theorem dX8_lightest_164 : decode cX8_lightest 164 = .ok (.lconst 0, 1) := by decide +kernel
theorem dX8_lightest_165 : decode cX8_lightest 165 = .ok (.ladd, 1) := by decide +kernel
theorem dX8_lightest_166 : decode cX8_lightest 166 = .ok (.lstore_n 3, 1) := by decide +kernel
theorem dX8_lightest_167 : decode cX8_lightest 167 = .ok (.goto (-123), 3) := by decide +kernel
theorem dX8_lightest_170 : decode cX8_lightest 170 = .ok (.lload_n 3, 1) := by decide +kernel
theorem dX8_lightest_171 : decode cX8_lightest 171 = .ok (.lreturn, 1) := by decide +kernel
set_option maxRecDepth 20000 in
theorem ggX8_spread_X8_dimension : GoodIn wsX8_spread wsX8_dimension := goodIn_r _ [9, 10, 11, 12, 13, 14, 8, 15, 16, 17, 18, 19, 2, 20, 21, 22, 23, 24, 25, 26, 27, 3, 28, 34, 35, 36, 37, 38, 39, 40, 41, 42, 43, 44, 45, 46, 47, 48, 49, 50, 51, 52, 53] (by decide +kernel) (by decide +kernel)
set_option maxRecDepth 20000 in
theorem gX8_spread_X8_dimension : GoodIn wsX8_spread (wsV RX8 86 RX8 yX8_dimension wsX8_dimension) := goodIn_app (goodIn_of _ (by decide +kernel)) ggX8_spread_X8_dimension
set_option maxRecDepth 20000 in
theorem ggX8_spread_X8_weightOf : GoodIn wsX8_spread wsX8_weightOf := goodIn_r _ [32, 10, 33, 34, 35, 36, 37, 38, 39, 40, 41, 42, 43, 44, 45, 46, 47, 48, 49, 50, 51, 52, 53] (by decide +kernel) (by decide +kernel)
set_option maxRecDepth 20000 in
theorem gX8_spread_X8_weightOf : GoodIn wsX8_spread (wsV RX8 113 RX8 yX8_weightOf wsX8_weightOf) := goodIn_app (goodIn_of _ (by decide +kernel)) ggX8_spread_X8_weightOf
theorem dX8_spread_0 : decode cX8_spread 0 = .ok (.iconst 1, 1) := by decide +kernel
theorem dX8_spread_1 : decode cX8_spread 1 = .ok (.aload_n 0, 1) := by decide +kernel
theorem dX8_spread_2 : decode cX8_spread 2 = .ok (.invokevirtual 86, 3) := by decide +kernel
theorem dX8_spread_5 : decode cX8_spread 5 = .ok (.ishl, 1) := by decide +kernel
theorem dX8_spread_6 : decode cX8_spread 6 = .ok (.istore_n 1, 1) := by decide +kernel
theorem dX8_spread_7 : decode cX8_spread 7 = .ok (.iconst 0, 1) := by decide +kernel
theorem dX8_spread_8 : decode cX8_spread 8 = .ok (.istore_n 2, 1) := by decide +kernel
theorem dX8_spread_9 : decode cX8_spread 9 = .ok (.iload_n 2, 1) := by decide +kernel
theorem dX8_spread_10 : decode cX8_spread 10 = .ok (.iload_n 1, 1) := by decide +kernel
theorem dX8_spread_11 : decode cX8_spread 11 = .ok (.if_icmp .ge 72, 3) := by decide +kernel
theorem dX8_spread_14 : decode cX8_spread 14 = .ok (.aload_n 0, 1) := by decide +kernel
theorem dX8_spread_15 : decode cX8_spread 15 = .ok (.getfield 39, 3) := by decide +kernel
theorem dX8_spread_18 : decode cX8_spread 18 = .ok (.iload_n 2, 1) := by decide +kernel
theorem dX8_spread_19 : decode cX8_spread 19 = .ok (.lconst 0, 1) := by decide +kernel
theorem dX8_spread_20 : decode cX8_spread 20 = .ok (.lastore, 1) := by decide +kernel
theorem dX8_spread_21 : decode cX8_spread 21 = .ok (.iconst 0, 1) := by decide +kernel
theorem dX8_spread_22 : decode cX8_spread 22 = .ok (.istore_n 3, 1) := by decide +kernel
theorem dX8_spread_23 : decode cX8_spread 23 = .ok (.iload_n 3, 1) := by decide +kernel
theorem dX8_spread_24 : decode cX8_spread 24 = .ok (.aload_n 0, 1) := by decide +kernel
theorem dX8_spread_25 : decode cX8_spread 25 = .ok (.getfield 64, 3) := by decide +kernel
theorem dX8_spread_28 : decode cX8_spread 28 = .ok (.if_icmp .ge 33, 3) := by decide +kernel
theorem dX8_spread_31 : decode cX8_spread 31 = .ok (.iload_n 2, 1) := by decide +kernel
theorem dX8_spread_32 : decode cX8_spread 32 = .ok (.iload_n 3, 1) := by decide +kernel
theorem dX8_spread_33 : decode cX8_spread 33 = .ok (.ishr, 1) := by decide +kernel
theorem dX8_spread_34 : decode cX8_spread 34 = .ok (.iconst 1, 1) := by decide +kernel
theorem dX8_spread_35 : decode cX8_spread 35 = .ok (.iand, 1) := by decide +kernel
theorem dX8_spread_36 : decode cX8_spread 36 = .ok (.iconst 1, 1) := by decide +kernel
theorem dX8_spread_37 : decode cX8_spread 37 = .ok (.if_icmp .ne 18, 3) := by decide +kernel
theorem dX8_spread_40 : decode cX8_spread 40 = .ok (.aload_n 0, 1) := by decide +kernel
theorem dX8_spread_41 : decode cX8_spread 41 = .ok (.getfield 39, 3) := by decide +kernel
theorem dX8_spread_44 : decode cX8_spread 44 = .ok (.iload_n 2, 1) := by decide +kernel
theorem dX8_spread_45 : decode cX8_spread 45 = .ok (.dup2, 1) := by decide +kernel
theorem dX8_spread_46 : decode cX8_spread 46 = .ok (.laload, 1) := by decide +kernel
theorem dX8_spread_47 : decode cX8_spread 47 = .ok (.aload_n 0, 1) := by decide +kernel
theorem dX8_spread_48 : decode cX8_spread 48 = .ok (.getfield 33, 3) := by decide +kernel
theorem dX8_spread_51 : decode cX8_spread 51 = .ok (.iload_n 3, 1) := by decide +kernel
theorem dX8_spread_52 : decode cX8_spread 52 = .ok (.laload, 1) := by decide +kernel
theorem dX8_spread_53 : decode cX8_spread 53 = .ok (.lxor, 1) := by decide +kernel
theorem dX8_spread_54 : decode cX8_spread 54 = .ok (.lastore, 1) := by decide +kernel
theorem dX8_spread_55 : decode cX8_spread 55 = .ok (.iinc 3 1, 3) := by decide +kernel
theorem dX8_spread_58 : decode cX8_spread 58 = .ok (.goto (-35), 3) := by decide +kernel
theorem dX8_spread_61 : decode cX8_spread 61 = .ok (.aload_n 0, 1) := by decide +kernel
theorem dX8_spread_62 : decode cX8_spread 62 = .ok (.getfield 42, 3) := by decide +kernel
theorem dX8_spread_65 : decode cX8_spread 65 = .ok (.iload_n 2, 1) := by decide +kernel
theorem dX8_spread_66 : decode cX8_spread 66 = .ok (.aload_n 0, 1) := by decide +kernel
theorem dX8_spread_67 : decode cX8_spread 67 = .ok (.aload_n 0, 1) := by decide +kernel
theorem dX8_spread_68 : decode cX8_spread 68 = .ok (.getfield 39, 3) := by decide +kernel
theorem dX8_spread_71 : decode cX8_spread 71 = .ok (.iload_n 2, 1) := by decide +kernel
theorem dX8_spread_72 : decode cX8_spread 72 = .ok (.laload, 1) := by decide +kernel
theorem dX8_spread_73 : decode cX8_spread 73 = .ok (.invokevirtual 113, 3) := by decide +kernel
theorem dX8_spread_76 : decode cX8_spread 76 = .ok (.lastore, 1) := by decide +kernel
theorem dX8_spread_77 : decode cX8_spread 77 = .ok (.iinc 2 1, 3) := by decide +kernel
theorem dX8_spread_80 : decode cX8_spread 80 = .ok (.goto (-71), 3) := by decide +kernel
theorem dX8_spread_83 : decode cX8_spread 83 = .ok (.iload_n 1, 1) := by decide +kernel
theorem dX8_spread_84 : decode cX8_spread 84 = .ok (.ireturn, 1) := by decide +kernel
theorem dX8_endsAt_0 : decode cX8_endsAt 0 = .ok (.iconst 0, 1) := by decide +kernel
theorem dX8_endsAt_1 : decode cX8_endsAt 1 = .ok (.istore 4, 2) := by decide +kernel
theorem dX8_endsAt_3 : decode cX8_endsAt 3 = .ok (.iconst 0, 1) := by decide +kernel
theorem dX8_endsAt_4 : decode cX8_endsAt 4 = .ok (.istore 5, 2) := by decide +kernel
theorem dX8_endsAt_6 : decode cX8_endsAt 6 = .ok (.iload 5, 2) := by decide +kernel
theorem dX8_endsAt_8 : decode cX8_endsAt 8 = .ok (.aload_n 0, 1) := by decide +kernel
theorem dX8_endsAt_9 : decode cX8_endsAt 9 = .ok (.getfield 61, 3) := by decide +kernel
theorem dX8_endsAt_12 : decode cX8_endsAt 12 = .ok (.if_icmp .ge 65, 3) := by decide +kernel
theorem dX8_endsAt_15 : decode cX8_endsAt 15 = .ok (.lload_n 1, 1) := by decide +kernel
theorem dX8_endsAt_16 : decode cX8_endsAt 16 = .ok (.iload 5, 2) := by decide +kernel
theorem dX8_endsAt_18 : decode cX8_endsAt 18 = .ok (.lshr, 1) := by decide +kernel
theorem dX8_endsAt_19 : decode cX8_endsAt 19 = .ok (.lconst 1, 1) := by decide +kernel
theorem dX8_endsAt_20 : decode cX8_endsAt 20 = .ok (.land, 1) := by decide +kernel
theorem dX8_endsAt_21 : decode cX8_endsAt 21 = .ok (.lconst 0, 1) := by decide +kernel
theorem dX8_endsAt_22 : decode cX8_endsAt 22 = .ok (.lcmp, 1) := by decide +kernel
theorem dX8_endsAt_23 : decode cX8_endsAt 23 = .ok (.ifCond .ne 6, 3) := by decide +kernel
theorem dX8_endsAt_26 : decode cX8_endsAt 26 = .ok (.goto 45, 3) := by decide +kernel
theorem dX8_endsAt_29 : decode cX8_endsAt 29 = .ok (.iload 4, 2) := by decide +kernel
theorem dX8_endsAt_31 : decode cX8_endsAt 31 = .ok (.aload_n 0, 1) := by decide +kernel
theorem dX8_endsAt_32 : decode cX8_endsAt 32 = .ok (.getfield 13, 3) := by decide +kernel
theorem dX8_endsAt_35 : decode cX8_endsAt 35 = .ok (.iload 5, 2) := by decide +kernel
theorem dX8_endsAt_37 : decode cX8_endsAt 37 = .ok (.iaload, 1) := by decide +kernel
theorem dX8_endsAt_38 : decode cX8_endsAt 38 = .ok (.iload_n 3, 1) := by decide +kernel
theorem dX8_endsAt_39 : decode cX8_endsAt 39 = .ok (.if_icmp .ne 7, 3) := by decide +kernel
theorem dX8_endsAt_42 : decode cX8_endsAt 42 = .ok (.iconst 1, 1) := by decide +kernel
theorem dX8_endsAt_43 : decode cX8_endsAt 43 = .ok (.goto 4, 3) := by decide +kernel
theorem dX8_endsAt_46 : decode cX8_endsAt 46 = .ok (.iconst 0, 1) := by decide +kernel
theorem dX8_endsAt_47 : decode cX8_endsAt 47 = .ok (.iadd, 1) := by decide +kernel
theorem dX8_endsAt_48 : decode cX8_endsAt 48 = .ok (.istore 4, 2) := by decide +kernel
theorem dX8_endsAt_50 : decode cX8_endsAt 50 = .ok (.iload 4, 2) := by decide +kernel
theorem dX8_endsAt_52 : decode cX8_endsAt 52 = .ok (.aload_n 0, 1) := by decide +kernel
theorem dX8_endsAt_53 : decode cX8_endsAt 53 = .ok (.getfield 17, 3) := by decide +kernel
theorem dX8_endsAt_56 : decode cX8_endsAt 56 = .ok (.iload 5, 2) := by decide +kernel
theorem dX8_endsAt_58 : decode cX8_endsAt 58 = .ok (.iaload, 1) := by decide +kernel
theorem dX8_endsAt_59 : decode cX8_endsAt 59 = .ok (.iload_n 3, 1) := by decide +kernel
theorem dX8_endsAt_60 : decode cX8_endsAt 60 = .ok (.if_icmp .ne 7, 3) := by decide +kernel
theorem dX8_endsAt_63 : decode cX8_endsAt 63 = .ok (.iconst 1, 1) := by decide +kernel
theorem dX8_endsAt_64 : decode cX8_endsAt 64 = .ok (.goto 4, 3) := by decide +kernel
theorem dX8_endsAt_67 : decode cX8_endsAt 67 = .ok (.iconst 0, 1) := by decide +kernel
theorem dX8_endsAt_68 : decode cX8_endsAt 68 = .ok (.iadd, 1) := by decide +kernel
theorem dX8_endsAt_69 : decode cX8_endsAt 69 = .ok (.istore 4, 2) := by decide +kernel
theorem dX8_endsAt_71 : decode cX8_endsAt 71 = .ok (.iinc 5 1, 3) := by decide +kernel
theorem dX8_endsAt_74 : decode cX8_endsAt 74 = .ok (.goto (-68), 3) := by decide +kernel
theorem dX8_endsAt_77 : decode cX8_endsAt 77 = .ok (.iload 4, 2) := by decide +kernel
theorem dX8_endsAt_79 : decode cX8_endsAt 79 = .ok (.ireturn, 1) := by decide +kernel
set_option maxRecDepth 20000 in
theorem ggX8_isEven_X8_endsAt : GoodIn wsX8_isEven wsX8_endsAt := goodIn_r _ [6, 7, 8, 9, 10, 11, 12, 13, 14, 15, 16, 17, 18, 19, 20, 21, 22, 23, 24, 25, 26, 27, 28, 29] (by decide +kernel) (by decide +kernel)
set_option maxRecDepth 20000 in
theorem gX8_isEven_X8_endsAt : GoodIn wsX8_isEven (wsV RX8 117 RX8 yX8_endsAt wsX8_endsAt) := goodIn_app (goodIn_of _ (by decide +kernel)) ggX8_isEven_X8_endsAt
theorem dX8_isEven_0 : decode cX8_isEven 0 = .ok (.iconst 1, 1) := by decide +kernel
theorem dX8_isEven_1 : decode cX8_isEven 1 = .ok (.istore_n 3, 1) := by decide +kernel
theorem dX8_isEven_2 : decode cX8_isEven 2 = .ok (.iconst 0, 1) := by decide +kernel
theorem dX8_isEven_3 : decode cX8_isEven 3 = .ok (.istore 4, 2) := by decide +kernel
theorem dX8_isEven_5 : decode cX8_isEven 5 = .ok (.iload 4, 2) := by decide +kernel
theorem dX8_isEven_7 : decode cX8_isEven 7 = .ok (.aload_n 0, 1) := by decide +kernel
theorem dX8_isEven_8 : decode cX8_isEven 8 = .ok (.getfield 7, 3) := by decide +kernel
theorem dX8_isEven_11 : decode cX8_isEven 11 = .ok (.if_icmp .ge 31, 3) := by decide +kernel
theorem dX8_isEven_14 : decode cX8_isEven 14 = .ok (.iload_n 3, 1) := by decide +kernel
theorem dX8_isEven_15 : decode cX8_isEven 15 = .ok (.ifCond .eq 19, 3) := by decide +kernel
theorem dX8_isEven_18 : decode cX8_isEven 18 = .ok (.aload_n 0, 1) := by decide +kernel
theorem dX8_isEven_19 : decode cX8_isEven 19 = .ok (.lload_n 1, 1) := by decide +kernel
theorem dX8_isEven_20 : decode cX8_isEven 20 = .ok (.iload 4, 2) := by decide +kernel
theorem dX8_isEven_22 : decode cX8_isEven 22 = .ok (.invokevirtual 117, 3) := by decide +kernel
theorem dX8_isEven_25 : decode cX8_isEven 25 = .ok (.iconst 2, 1) := by decide +kernel
theorem dX8_isEven_26 : decode cX8_isEven 26 = .ok (.irem, 1) := by decide +kernel
theorem dX8_isEven_27 : decode cX8_isEven 27 = .ok (.ifCond .ne 7, 3) := by decide +kernel
theorem dX8_isEven_30 : decode cX8_isEven 30 = .ok (.iconst 1, 1) := by decide +kernel
theorem dX8_isEven_31 : decode cX8_isEven 31 = .ok (.goto 4, 3) := by decide +kernel
theorem dX8_isEven_34 : decode cX8_isEven 34 = .ok (.iconst 0, 1) := by decide +kernel
theorem dX8_isEven_35 : decode cX8_isEven 35 = .ok (.istore_n 3, 1) := by decide +kernel
theorem dX8_isEven_36 : decode cX8_isEven 36 = .ok (.iinc 4 1, 3) := by decide +kernel
theorem dX8_isEven_39 : decode cX8_isEven 39 = .ok (.goto (-34), 3) := by decide +kernel
theorem dX8_isEven_42 : decode cX8_isEven 42 = .ok (.iload_n 3, 1) := by decide +kernel
theorem dX8_isEven_43 : decode cX8_isEven 43 = .ok (.ireturn, 1) := by decide +kernel
set_option maxRecDepth 20000 in
theorem ggX8_isRing_X8_endsAt : GoodIn wsX8_isRing wsX8_endsAt := goodIn_r _ [7, 2, 8, 9, 23, 24, 25, 26, 27, 28, 29, 30, 31, 32, 33, 34, 35, 36, 37, 38, 39, 40, 41, 42] (by decide +kernel) (by decide +kernel)
set_option maxRecDepth 20000 in
theorem gX8_isRing_X8_endsAt : GoodIn wsX8_isRing (wsV RX8 117 RX8 yX8_endsAt wsX8_endsAt) := goodIn_app (goodIn_of _ (by decide +kernel)) ggX8_isRing_X8_endsAt
set_option maxRecDepth 20000 in
theorem ggX8_isRing_X8_beginGroups : GoodIn wsX8_isRing wsX8_beginGroups := goodIn_r _ [13, 14, 15, 16, 23, 24, 25, 26, 27, 28, 29, 30, 31, 32, 33, 34, 35, 36, 37, 38, 39, 40, 41, 42] (by decide +kernel) (by decide +kernel)
set_option maxRecDepth 20000 in
theorem gX8_isRing_X8_beginGroups : GoodIn wsX8_isRing (wsV RX8 67 RX8 yX8_beginGroups wsX8_beginGroups) := goodIn_app (goodIn_of _ (by decide +kernel)) ggX8_isRing_X8_beginGroups
set_option maxRecDepth 20000 in
theorem ggX8_isRing_X8_joins : GoodIn wsX8_isRing wsX8_joins := goodIn_r _ [20, 8, 9, 15, 21, 14, 16, 22, 1, 23, 24, 25, 26, 27, 28, 29, 30, 31, 32, 33, 34, 35, 36, 37, 38, 39, 40, 41, 42] (by decide +kernel) (by decide +kernel)
set_option maxRecDepth 20000 in
theorem gX8_isRing_X8_joins : GoodIn wsX8_isRing (wsV RX8 70 RX8 yX8_joins wsX8_joins) := goodIn_app (goodIn_of _ (by decide +kernel)) ggX8_isRing_X8_joins
theorem dX8_isRing_0 : decode cX8_isRing 0 = .ok (.lload_n 1, 1) := by decide +kernel
theorem dX8_isRing_1 : decode cX8_isRing 1 = .ok (.lconst 0, 1) := by decide +kernel
theorem dX8_isRing_2 : decode cX8_isRing 2 = .ok (.lcmp, 1) := by decide +kernel
theorem dX8_isRing_3 : decode cX8_isRing 3 = .ok (.ifCond .ne 5, 3) := by decide +kernel
theorem dX8_isRing_6 : decode cX8_isRing 6 = .ok (.iconst 0, 1) := by decide +kernel
theorem dX8_isRing_7 : decode cX8_isRing 7 = .ok (.ireturn, 1) := by decide +kernel
theorem dX8_isRing_8 : decode cX8_isRing 8 = .ok (.iconst 1, 1) := by decide +kernel
theorem dX8_isRing_9 : decode cX8_isRing 9 = .ok (.istore_n 3, 1) := by decide +kernel
theorem dX8_isRing_10 : decode cX8_isRing 10 = .ok (.iconst 0, 1) := by decide +kernel
theorem dX8_isRing_11 : decode cX8_isRing 11 = .ok (.istore 4, 2) := by decide +kernel
theorem dX8_isRing_13 : decode cX8_isRing 13 = .ok (.iload 4, 2) := by decide +kernel
theorem dX8_isRing_15 : decode cX8_isRing 15 = .ok (.aload_n 0, 1) := by decide +kernel
theorem dX8_isRing_16 : decode cX8_isRing 16 = .ok (.getfield 7, 3) := by decide +kernel
theorem dX8_isRing_19 : decode cX8_isRing 19 = .ok (.if_icmp .ge 30, 3) := by decide +kernel
theorem dX8_isRing_22 : decode cX8_isRing 22 = .ok (.iload_n 3, 1) := by decide +kernel
theorem dX8_isRing_23 : decode cX8_isRing 23 = .ok (.ifCond .eq 18, 3) := by decide +kernel
theorem dX8_isRing_26 : decode cX8_isRing 26 = .ok (.aload_n 0, 1) := by decide +kernel
theorem dX8_isRing_27 : decode cX8_isRing 27 = .ok (.lload_n 1, 1) := by decide +kernel
theorem dX8_isRing_28 : decode cX8_isRing 28 = .ok (.iload 4, 2) := by decide +kernel
theorem dX8_isRing_30 : decode cX8_isRing 30 = .ok (.invokevirtual 117, 3) := by decide +kernel
theorem dX8_isRing_33 : decode cX8_isRing 33 = .ok (.iconst 2, 1) := by decide +kernel
theorem dX8_isRing_34 : decode cX8_isRing 34 = .ok (.if_icmp .gt 7, 3) := by decide +kernel
theorem dX8_isRing_37 : decode cX8_isRing 37 = .ok (.iconst 1, 1) := by decide +kernel
theorem dX8_isRing_38 : decode cX8_isRing 38 = .ok (.goto 4, 3) := by decide +kernel
theorem dX8_isRing_41 : decode cX8_isRing 41 = .ok (.iconst 0, 1) := by decide +kernel
theorem dX8_isRing_42 : decode cX8_isRing 42 = .ok (.istore_n 3, 1) := by decide +kernel
theorem dX8_isRing_43 : decode cX8_isRing 43 = .ok (.iinc 4 1, 3) := by decide +kernel
theorem dX8_isRing_46 : decode cX8_isRing 46 = .ok (.goto (-33), 3) := by decide +kernel
theorem dX8_isRing_49 : decode cX8_isRing 49 = .ok (.iconst 0, 1) := by decide +kernel
theorem dX8_isRing_50 : decode cX8_isRing 50 = .ok (.istore 4, 2) := by decide +kernel
theorem dX8_isRing_52 : decode cX8_isRing 52 = .ok (.iconst 0, 1) := by decide +kernel
theorem dX8_isRing_53 : decode cX8_isRing 53 = .ok (.istore 5, 2) := by decide +kernel
theorem dX8_isRing_55 : decode cX8_isRing 55 = .ok (.iload 5, 2) := by decide +kernel
theorem dX8_isRing_57 : decode cX8_isRing 57 = .ok (.aload_n 0, 1) := by decide +kernel
theorem dX8_isRing_58 : decode cX8_isRing 58 = .ok (.getfield 61, 3) := by decide +kernel
theorem dX8_isRing_61 : decode cX8_isRing 61 = .ok (.if_icmp .ge 21, 3) := by decide +kernel
theorem dX8_isRing_64 : decode cX8_isRing 64 = .ok (.iload 4, 2) := by decide +kernel
theorem dX8_isRing_66 : decode cX8_isRing 66 = .ok (.lload_n 1, 1) := by decide +kernel
theorem dX8_isRing_67 : decode cX8_isRing 67 = .ok (.iload 5, 2) := by decide +kernel
theorem dX8_isRing_69 : decode cX8_isRing 69 = .ok (.lshr, 1) := by decide +kernel
theorem dX8_isRing_70 : decode cX8_isRing 70 = .ok (.lconst 1, 1) := by decide +kernel
theorem dX8_isRing_71 : decode cX8_isRing 71 = .ok (.land, 1) := by decide +kernel
theorem dX8_isRing_72 : decode cX8_isRing 72 = .ok (.l2i, 1) := by decide +kernel
theorem dX8_isRing_73 : decode cX8_isRing 73 = .ok (.iadd, 1) := by decide +kernel
theorem dX8_isRing_74 : decode cX8_isRing 74 = .ok (.istore 4, 2) := by decide +kernel
theorem dX8_isRing_76 : decode cX8_isRing 76 = .ok (.iinc 5 1, 3) := by decide +kernel
theorem dX8_isRing_79 : decode cX8_isRing 79 = .ok (.goto (-24), 3) := by decide +kernel
theorem dX8_isRing_82 : decode cX8_isRing 82 = .ok (.aload_n 0, 1) := by decide +kernel
theorem dX8_isRing_83 : decode cX8_isRing 83 = .ok (.invokevirtual 67, 3) := by decide +kernel
theorem dX8_isRing_86 : decode cX8_isRing 86 = .ok (.iconst 0, 1) := by decide +kernel
theorem dX8_isRing_87 : decode cX8_isRing 87 = .ok (.istore 5, 2) := by decide +kernel
theorem dX8_isRing_89 : decode cX8_isRing 89 = .ok (.iconst 0, 1) := by decide +kernel
theorem dX8_isRing_90 : decode cX8_isRing 90 = .ok (.istore 6, 2) := by decide +kernel
theorem dX8_isRing_92 : decode cX8_isRing 92 = .ok (.iload 6, 2) := by decide +kernel
theorem dX8_isRing_94 : decode cX8_isRing 94 = .ok (.aload_n 0, 1) := by decide +kernel
theorem dX8_isRing_95 : decode cX8_isRing 95 = .ok (.getfield 61, 3) := by decide +kernel
theorem dX8_isRing_98 : decode cX8_isRing 98 = .ok (.if_icmp .ge 39, 3) := by decide +kernel
theorem dX8_isRing_101 : decode cX8_isRing 101 = .ok (.lload_n 1, 1) := by decide +kernel
theorem dX8_isRing_102 : decode cX8_isRing 102 = .ok (.iload 6, 2) := by decide +kernel
theorem dX8_isRing_104 : decode cX8_isRing 104 = .ok (.lshr, 1) := by decide +kernel
theorem dX8_isRing_105 : decode cX8_isRing 105 = .ok (.lconst 1, 1) := by decide +kernel
theorem dX8_isRing_106 : decode cX8_isRing 106 = .ok (.land, 1) := by decide +kernel
theorem dX8_isRing_107 : decode cX8_isRing 107 = .ok (.lconst 1, 1) := by decide +kernel
theorem dX8_isRing_108 : decode cX8_isRing 108 = .ok (.lcmp, 1) := by decide +kernel
theorem dX8_isRing_109 : decode cX8_isRing 109 = .ok (.ifCond .ne 22, 3) := by decide +kernel
theorem dX8_isRing_112 : decode cX8_isRing 112 = .ok (.iload 5, 2) := by decide +kernel
theorem dX8_isRing_114 : decode cX8_isRing 114 = .ok (.aload_n 0, 1) := by decide +kernel
theorem dX8_isRing_115 : decode cX8_isRing 115 = .ok (.iload 6, 2) := by decide +kernel
theorem dX8_isRing_117 : decode cX8_isRing 117 = .ok (.invokevirtual 70, 3) := by decide +kernel
theorem dX8_isRing_120 : decode cX8_isRing 120 = .ok (.ifCond .eq 7, 3) := by decide +kernel
theorem dX8_isRing_123 : decode cX8_isRing 123 = .ok (.iconst 1, 1) := by decide +kernel
theorem dX8_isRing_124 : decode cX8_isRing 124 = .ok (.goto 4, 3) := by decide +kernel
theorem dX8_isRing_127 : decode cX8_isRing 127 = .ok (.iconst 0, 1) := by decide +kernel
theorem dX8_isRing_128 : decode cX8_isRing 128 = .ok (.iadd, 1) := by decide +kernel
theorem dX8_isRing_129 : decode cX8_isRing 129 = .ok (.istore 5, 2) := by decide +kernel
theorem dX8_isRing_131 : decode cX8_isRing 131 = .ok (.iinc 6 1, 3) := by decide +kernel
theorem dX8_isRing_134 : decode cX8_isRing 134 = .ok (.goto (-42), 3) := by decide +kernel
theorem dX8_isRing_137 : decode cX8_isRing 137 = .ok (.iload_n 3, 1) := by decide +kernel
theorem dX8_isRing_138 : decode cX8_isRing 138 = .ok (.ifCond .eq 16, 3) := by decide +kernel
theorem dX8_isRing_141 : decode cX8_isRing 141 = .ok (.iload 5, 2) := by decide +kernel
theorem dX8_isRing_143 : decode cX8_isRing 143 = .ok (.iload 4, 2) := by decide +kernel
theorem dX8_isRing_145 : decode cX8_isRing 145 = .ok (.iconst 1, 1) := by decide +kernel
theorem dX8_isRing_146 : decode cX8_isRing 146 = .ok (.isub, 1) := by decide +kernel
theorem dX8_isRing_147 : decode cX8_isRing 147 = .ok (.if_icmp .ne 7, 3) := by decide +kernel
theorem dX8_isRing_150 : decode cX8_isRing 150 = .ok (.iconst 1, 1) := by decide +kernel
theorem dX8_isRing_151 : decode cX8_isRing 151 = .ok (.goto 4, 3) := by decide +kernel
theorem dX8_isRing_154 : decode cX8_isRing 154 = .ok (.iconst 0, 1) := by decide +kernel
theorem dX8_isRing_155 : decode cX8_isRing 155 = .ok (.ireturn, 1) := by decide +kernel
set_option maxRecDepth 20000 in
theorem ggX8_isCycle_X8_isSet : GoodIn wsX8_isCycle wsX8_isSet := goodIn_r _ [5, 6, 40, 41, 42, 43, 44, 45, 46, 47, 48, 49, 50, 51, 52, 53, 54, 55, 56, 57, 58, 59] (by decide +kernel) (by decide +kernel)
set_option maxRecDepth 20000 in
theorem gX8_isCycle_X8_isSet : GoodIn wsX8_isCycle (wsV RX8 89 RX8 yX8_isSet wsX8_isSet) := goodIn_app (goodIn_of _ (by decide +kernel)) ggX8_isCycle_X8_isSet
set_option maxRecDepth 20000 in
theorem ggX8_isCycle_X8_throwing : GoodIn wsX8_isCycle wsX8_throwing := goodIn_r _ [10, 11, 40, 41, 42, 43, 44, 45, 46, 47, 48, 49, 50, 51, 52, 53, 54, 55, 56, 57, 58, 59] (by decide +kernel) (by decide +kernel)
set_option maxRecDepth 20000 in
theorem gX8_isCycle_X8_throwing : GoodIn wsX8_isCycle (wsV RX8 78 RX8 yX8_throwing wsX8_throwing) := goodIn_app (goodIn_of _ (by decide +kernel)) ggX8_isCycle_X8_throwing
set_option maxRecDepth 20000 in
theorem ggX8_isCycle_X8_isEven : GoodIn wsX8_isCycle wsX8_isEven := goodIn_r _ [15, 16, 17, 18, 19, 4, 20, 6, 21, 22, 40, 41, 42, 43, 44, 45, 46, 47, 48, 49, 50, 51, 52, 53, 54, 55, 56, 57, 58, 59] (by decide +kernel) (by decide +kernel)
set_option maxRecDepth 20000 in
theorem gX8_isCycle_X8_isEven : GoodIn wsX8_isCycle (wsV RX8 121 RX8 yX8_isEven wsX8_isEven) := goodIn_app (goodIn_of _ (by decide +kernel)) ggX8_isCycle_X8_isEven
set_option maxRecDepth 20000 in
theorem ggX8_isCycle_X8_isRing : GoodIn wsX8_isCycle wsX8_isRing := goodIn_r _ [26, 16, 6, 17, 18, 19, 4, 20, 21, 22, 27, 28, 29, 30, 31, 32, 33, 34, 35, 36, 37, 38, 39, 40, 41, 42, 43, 44, 45, 46, 47, 48, 49, 50, 51, 52, 53, 54, 55, 56, 57, 58, 59] (by decide +kernel) (by decide +kernel)
set_option maxRecDepth 20000 in
theorem gX8_isCycle_X8_isRing : GoodIn wsX8_isCycle (wsV RX8 124 RX8 yX8_isRing wsX8_isRing) := goodIn_app (goodIn_of _ (by decide +kernel)) ggX8_isCycle_X8_isRing
theorem dX8_isCycle_0 : decode cX8_isCycle 0 = .ok (.aload_n 0, 1) := by decide +kernel
theorem dX8_isCycle_1 : decode cX8_isCycle 1 = .ok (.aload_n 0, 1) := by decide +kernel
theorem dX8_isCycle_2 : decode cX8_isCycle 2 = .ok (.lload_n 1, 1) := by decide +kernel
theorem dX8_isCycle_3 : decode cX8_isCycle 3 = .ok (.invokevirtual 89, 3) := by decide +kernel
theorem dX8_isCycle_6 : decode cX8_isCycle 6 = .ok (.ifCond .ne 7, 3) := by decide +kernel
theorem dX8_isCycle_9 : decode cX8_isCycle 9 = .ok (.iconst 1, 1) := by decide +kernel
theorem dX8_isCycle_10 : decode cX8_isCycle 10 = .ok (.goto 4, 3) := by decide +kernel
theorem dX8_isCycle_13 : decode cX8_isCycle 13 = .ok (.iconst 0, 1) := by decide +kernel
theorem dX8_isCycle_14 : decode cX8_isCycle 14 = .ok (.iconst 0, 1) := by decide +kernel
theorem dX8_isCycle_15 : decode cX8_isCycle 15 = .ok (.invokevirtual 78, 3) := by decide +kernel
theorem dX8_isCycle_18 : decode cX8_isCycle 18 = .ok (.ifCond .eq 5, 3) := by decide +kernel
theorem dX8_isCycle_21 : decode cX8_isCycle 21 = .ok (.iconst 0, 1) := by decide +kernel
theorem dX8_isCycle_22 : decode cX8_isCycle 22 = .ok (.ireturn, 1) := by decide +kernel
theorem dX8_isCycle_23 : decode cX8_isCycle 23 = .ok (.aload_n 0, 1) := by decide +kernel
theorem dX8_isCycle_24 : decode cX8_isCycle 24 = .ok (.lload_n 1, 1) := by decide +kernel
theorem dX8_isCycle_25 : decode cX8_isCycle 25 = .ok (.invokevirtual 121, 3) := by decide +kernel
theorem dX8_isCycle_28 : decode cX8_isCycle 28 = .ok (.ifCond .ne 7, 3) := by decide +kernel
theorem dX8_isCycle_31 : decode cX8_isCycle 31 = .ok (.iconst 0, 1) := by decide +kernel
theorem dX8_isCycle_32 : decode cX8_isCycle 32 = .ok (.goto 16, 3) := by decide +kernel
theorem dX8_isCycle_35 : decode cX8_isCycle 35 = .ok (.aload_n 0, 1) := by decide +kernel
theorem dX8_isCycle_36 : decode cX8_isCycle 36 = .ok (.lload_n 1, 1) := by decide +kernel
theorem dX8_isCycle_37 : decode cX8_isCycle 37 = .ok (.invokevirtual 124, 3) := by decide +kernel
theorem dX8_isCycle_40 : decode cX8_isCycle 40 = .ok (.ifCond .eq 7, 3) := by decide +kernel
theorem dX8_isCycle_43 : decode cX8_isCycle 43 = .ok (.iconst 2, 1) := by decide +kernel
theorem dX8_isCycle_44 : decode cX8_isCycle 44 = .ok (.goto 4, 3) := by decide +kernel
theorem dX8_isCycle_47 : decode cX8_isCycle 47 = .ok (.iconst 1, 1) := by decide +kernel
theorem dX8_isCycle_48 : decode cX8_isCycle 48 = .ok (.ireturn, 1) := by decide +kernel
set_option maxRecDepth 20000 in
theorem ggX8_through_X8_throwing : GoodIn wsX8_through wsX8_throwing := goodIn_r _ [9, 10, 44, 45, 46, 47, 48, 49, 50, 51, 52, 53, 54, 55, 56, 57, 58, 59, 60, 61, 62, 63] (by decide +kernel) (by decide +kernel)
set_option maxRecDepth 20000 in
theorem gX8_through_X8_throwing : GoodIn wsX8_through (wsV RX8 78 RX8 yX8_throwing wsX8_throwing) := goodIn_app (goodIn_of _ (by decide +kernel)) ggX8_through_X8_throwing
set_option maxRecDepth 20000 in
theorem ggX8_through_X8_spread : GoodIn wsX8_through wsX8_spread := goodIn_r _ [14, 3, 15, 16, 4, 17, 18, 19, 8, 20, 1, 21, 22, 23, 24, 25, 26, 27, 28, 29, 30, 31, 32, 33, 34, 35, 36, 37, 38, 39, 40, 41, 42, 43, 44, 45, 46, 47, 48, 49, 50, 51, 52, 53, 54, 55, 56, 57, 58, 59, 60, 61, 62, 63] (by decide +kernel) (by decide +kernel)
set_option maxRecDepth 20000 in
theorem gX8_through_X8_spread : GoodIn wsX8_through (wsV RX8 127 RX8 yX8_spread wsX8_spread) := goodIn_app (goodIn_of _ (by decide +kernel)) ggX8_through_X8_spread
theorem dX8_through_0 : decode cX8_through 0 = .ok (.aload_n 0, 1) := by decide +kernel
theorem dX8_through_1 : decode cX8_through 1 = .ok (.iload_n 1, 1) := by decide +kernel
theorem dX8_through_2 : decode cX8_through 2 = .ok (.ifCond .lt 11, 3) := by decide +kernel
theorem dX8_through_5 : decode cX8_through 5 = .ok (.iload_n 1, 1) := by decide +kernel
theorem dX8_through_6 : decode cX8_through 6 = .ok (.aload_n 0, 1) := by decide +kernel
theorem dX8_through_7 : decode cX8_through 7 = .ok (.getfield 61, 3) := by decide +kernel
theorem dX8_through_10 : decode cX8_through 10 = .ok (.if_icmp .lt 7, 3) := by decide +kernel
theorem dX8_through_13 : decode cX8_through 13 = .ok (.iconst 1, 1) := by decide +kernel
theorem dX8_through_14 : decode cX8_through 14 = .ok (.goto 4, 3) := by decide +kernel
theorem dX8_through_17 : decode cX8_through 17 = .ok (.iconst 0, 1) := by decide +kernel
theorem dX8_through_18 : decode cX8_through 18 = .ok (.iconst 0, 1) := by decide +kernel
theorem dX8_through_19 : decode cX8_through 19 = .ok (.invokevirtual 78, 3) := by decide +kernel
theorem dX8_through_22 : decode cX8_through 22 = .ok (.ifCond .eq 5, 3) := by decide +kernel
theorem dX8_through_25 : decode cX8_through 25 = .ok (.lconst 0, 1) := by decide +kernel
theorem dX8_through_26 : decode cX8_through 26 = .ok (.lreturn, 1) := by decide +kernel
theorem dX8_through_27 : decode cX8_through 27 = .ok (.aload_n 0, 1) := by decide +kernel
theorem dX8_through_28 : decode cX8_through 28 = .ok (.invokevirtual 127, 3) := by decide +kernel
theorem dX8_through_31 : decode cX8_through 31 = .ok (.istore_n 2, 1) := by decide +kernel
theorem dX8_through_32 : decode cX8_through 32 = .ok (.ldc2_w 111, 3) := by decide +kernel
theorem dX8_through_35 : decode cX8_through 35 = .ok (.lstore_n 3, 1) := by decide +kernel
theorem dX8_through_36 : decode cX8_through 36 = .ok (.iconst 1, 1) := by decide +kernel
theorem dX8_through_37 : decode cX8_through 37 = .ok (.istore 5, 2) := by decide +kernel
theorem dX8_through_39 : decode cX8_through 39 = .ok (.iload 5, 2) := by decide +kernel
theorem dX8_through_41 : decode cX8_through 41 = .ok (.iload_n 2, 1) := by decide +kernel
theorem dX8_through_42 : decode cX8_through 42 = .ok (.if_icmp .ge 51, 3) := by decide +kernel
theorem dX8_through_45 : decode cX8_through 45 = .ok (.aload_n 0, 1) := by decide +kernel
theorem dX8_through_46 : decode cX8_through 46 = .ok (.getfield 39, 3) := by decide +kernel
theorem dX8_through_49 : decode cX8_through 49 = .ok (.iload 5, 2) := by decide +kernel
theorem dX8_through_51 : decode cX8_through 51 = .ok (.laload, 1) := by decide +kernel
theorem dX8_through_52 : decode cX8_through 52 = .ok (.iload_n 1, 1) := by decide +kernel
theorem dX8_through_53 : decode cX8_through 53 = .ok (.lshr, 1) := by decide +kernel
theorem dX8_through_54 : decode cX8_through 54 = .ok (.lconst 1, 1) := by decide +kernel
theorem dX8_through_55 : decode cX8_through 55 = .ok (.land, 1) := by decide +kernel
theorem dX8_through_56 : decode cX8_through 56 = .ok (.lconst 1, 1) := by decide +kernel
theorem dX8_through_57 : decode cX8_through 57 = .ok (.lcmp, 1) := by decide +kernel
theorem dX8_through_58 : decode cX8_through 58 = .ok (.ifCond .ne 29, 3) := by decide +kernel
theorem dX8_through_61 : decode cX8_through 61 = .ok (.lload_n 3, 1) := by decide +kernel
theorem dX8_through_62 : decode cX8_through 62 = .ok (.lconst 0, 1) := by decide +kernel
theorem dX8_through_63 : decode cX8_through 63 = .ok (.lcmp, 1) := by decide +kernel
theorem dX8_through_64 : decode cX8_through 64 = .ok (.ifCond .lt 15, 3) := by decide +kernel
theorem dX8_through_67 : decode cX8_through 67 = .ok (.aload_n 0, 1) := by decide +kernel
theorem dX8_through_68 : decode cX8_through 68 = .ok (.getfield 42, 3) := by decide +kernel
theorem dX8_through_71 : decode cX8_through 71 = .ok (.iload 5, 2) := by decide +kernel
theorem dX8_through_73 : decode cX8_through 73 = .ok (.laload, 1) := by decide +kernel
theorem dX8_through_74 : decode cX8_through 74 = .ok (.lload_n 3, 1) := by decide +kernel
theorem dX8_through_75 : decode cX8_through 75 = .ok (.lcmp, 1) := by decide +kernel
theorem dX8_through_76 : decode cX8_through 76 = .ok (.ifCond .ge 11, 3) := by decide +kernel
theorem dX8_through_79 : decode cX8_through 79 = .ok (.aload_n 0, 1) := by decide +kernel
theorem dX8_through_80 : decode cX8_through 80 = .ok (.getfield 42, 3) := by decide +kernel
theorem dX8_through_83 : decode cX8_through 83 = .ok (.iload 5, 2) := by decide +kernel
theorem dX8_through_85 : decode cX8_through 85 = .ok (.laload, 1) := by decide +kernel
theorem dX8_through_86 : decode cX8_through 86 = .ok (.lstore_n 3, 1) := by decide +kernel
theorem dX8_through_87 : decode cX8_through 87 = .ok (.iinc 5 1, 3) := by decide +kernel
theorem dX8_through_90 : decode cX8_through 90 = .ok (.goto (-51), 3) := by decide +kernel
theorem dX8_through_93 : decode cX8_through 93 = .ok (.lload_n 3, 1) := by decide +kernel
theorem dX8_through_94 : decode cX8_through 94 = .ok (.lreturn, 1) := by decide +kernel
theorem dX8_rest_0 : decode cX8_rest 0 = .ok (.lload_n 1, 1) := by decide +kernel
theorem dX8_rest_1 : decode cX8_rest 1 = .ok (.lstore_n 3, 1) := by decide +kernel
theorem dX8_rest_2 : decode cX8_rest 2 = .ok (.iconst 0, 1) := by decide +kernel
theorem dX8_rest_3 : decode cX8_rest 3 = .ok (.istore 5, 2) := by decide +kernel
theorem dX8_rest_5 : decode cX8_rest 5 = .ok (.iload 5, 2) := by decide +kernel
theorem dX8_rest_7 : decode cX8_rest 7 = .ok (.aload_n 0, 1) := by decide +kernel
theorem dX8_rest_8 : decode cX8_rest 8 = .ok (.getfield 130, 3) := by decide +kernel
theorem dX8_rest_11 : decode cX8_rest 11 = .ok (.if_icmp .ge 33, 3) := by decide +kernel
theorem dX8_rest_14 : decode cX8_rest 14 = .ok (.lload_n 3, 1) := by decide +kernel
theorem dX8_rest_15 : decode cX8_rest 15 = .ok (.aload_n 0, 1) := by decide +kernel
theorem dX8_rest_16 : decode cX8_rest 16 = .ok (.getfield 45, 3) := by decide +kernel
theorem dX8_rest_19 : decode cX8_rest 19 = .ok (.iload 5, 2) := by decide +kernel
theorem dX8_rest_21 : decode cX8_rest 21 = .ok (.laload, 1) := by decide +kernel
theorem dX8_rest_22 : decode cX8_rest 22 = .ok (.lxor, 1) := by decide +kernel
theorem dX8_rest_23 : decode cX8_rest 23 = .ok (.lload_n 3, 1) := by decide +kernel
theorem dX8_rest_24 : decode cX8_rest 24 = .ok (.lcmp, 1) := by decide +kernel
theorem dX8_rest_25 : decode cX8_rest 25 = .ok (.ifCond .ge 13, 3) := by decide +kernel
theorem dX8_rest_28 : decode cX8_rest 28 = .ok (.lload_n 3, 1) := by decide +kernel
theorem dX8_rest_29 : decode cX8_rest 29 = .ok (.aload_n 0, 1) := by decide +kernel
theorem dX8_rest_30 : decode cX8_rest 30 = .ok (.getfield 45, 3) := by decide +kernel
theorem dX8_rest_33 : decode cX8_rest 33 = .ok (.iload 5, 2) := by decide +kernel
theorem dX8_rest_35 : decode cX8_rest 35 = .ok (.laload, 1) := by decide +kernel
theorem dX8_rest_36 : decode cX8_rest 36 = .ok (.lxor, 1) := by decide +kernel
theorem dX8_rest_37 : decode cX8_rest 37 = .ok (.lstore_n 3, 1) := by decide +kernel
theorem dX8_rest_38 : decode cX8_rest 38 = .ok (.iinc 5 1, 3) := by decide +kernel
theorem dX8_rest_41 : decode cX8_rest 41 = .ok (.goto (-36), 3) := by decide +kernel
theorem dX8_rest_44 : decode cX8_rest 44 = .ok (.lload_n 3, 1) := by decide +kernel
theorem dX8_rest_45 : decode cX8_rest 45 = .ok (.lreturn, 1) := by decide +kernel
set_option maxRecDepth 20000 in
theorem ggX8_take_X8_rest : GoodIn wsX8_take wsX8_rest := goodIn_r _ [7, 1, 2, 8, 9, 10, 11, 12, 13, 14, 15, 16, 17, 18, 19, 20, 21, 22, 23, 24, 25, 26, 27] (by decide +kernel) (by decide +kernel)
set_option maxRecDepth 20000 in
theorem gX8_take_X8_rest : GoodIn wsX8_take (wsV RX8 133 RX8 yX8_rest wsX8_rest) := goodIn_app (goodIn_of _ (by decide +kernel)) ggX8_take_X8_rest
theorem dX8_take_0 : decode cX8_take 0 = .ok (.aload_n 0, 1) := by decide +kernel
theorem dX8_take_1 : decode cX8_take 1 = .ok (.lload_n 1, 1) := by decide +kernel
theorem dX8_take_2 : decode cX8_take 2 = .ok (.invokevirtual 133, 3) := by decide +kernel
theorem dX8_take_5 : decode cX8_take 5 = .ok (.lstore_n 3, 1) := by decide +kernel
theorem dX8_take_6 : decode cX8_take 6 = .ok (.lload_n 3, 1) := by decide +kernel
theorem dX8_take_7 : decode cX8_take 7 = .ok (.lconst 0, 1) := by decide +kernel
theorem dX8_take_8 : decode cX8_take 8 = .ok (.lcmp, 1) := by decide +kernel
theorem dX8_take_9 : decode cX8_take 9 = .ok (.ifCond .ne 5, 3) := by decide +kernel
theorem dX8_take_12 : decode cX8_take 12 = .ok (.iconst 0, 1) := by decide +kernel
theorem dX8_take_13 : decode cX8_take 13 = .ok (.ireturn, 1) := by decide +kernel
theorem dX8_take_14 : decode cX8_take 14 = .ok (.aload_n 0, 1) := by decide +kernel
theorem dX8_take_15 : decode cX8_take 15 = .ok (.getfield 130, 3) := by decide +kernel
theorem dX8_take_18 : decode cX8_take 18 = .ok (.istore 5, 2) := by decide +kernel
theorem dX8_take_20 : decode cX8_take 20 = .ok (.iload 5, 2) := by decide +kernel
theorem dX8_take_22 : decode cX8_take 22 = .ok (.ifCond .le 39, 3) := by decide +kernel
theorem dX8_take_25 : decode cX8_take 25 = .ok (.aload_n 0, 1) := by decide +kernel
theorem dX8_take_26 : decode cX8_take 26 = .ok (.getfield 45, 3) := by decide +kernel
theorem dX8_take_29 : decode cX8_take 29 = .ok (.iload 5, 2) := by decide +kernel
theorem dX8_take_31 : decode cX8_take 31 = .ok (.iconst 1, 1) := by decide +kernel
theorem dX8_take_32 : decode cX8_take 32 = .ok (.isub, 1) := by decide +kernel
theorem dX8_take_33 : decode cX8_take 33 = .ok (.laload, 1) := by decide +kernel
theorem dX8_take_34 : decode cX8_take 34 = .ok (.lload_n 3, 1) := by decide +kernel
theorem dX8_take_35 : decode cX8_take 35 = .ok (.lcmp, 1) := by decide +kernel
theorem dX8_take_36 : decode cX8_take 36 = .ok (.ifCond .ge 25, 3) := by decide +kernel
theorem dX8_take_39 : decode cX8_take 39 = .ok (.aload_n 0, 1) := by decide +kernel
theorem dX8_take_40 : decode cX8_take 40 = .ok (.getfield 45, 3) := by decide +kernel
theorem dX8_take_43 : decode cX8_take 43 = .ok (.iload 5, 2) := by decide +kernel
theorem dX8_take_45 : decode cX8_take 45 = .ok (.aload_n 0, 1) := by decide +kernel
theorem dX8_take_46 : decode cX8_take 46 = .ok (.getfield 45, 3) := by decide +kernel
theorem dX8_take_49 : decode cX8_take 49 = .ok (.iload 5, 2) := by decide +kernel
theorem dX8_take_51 : decode cX8_take 51 = .ok (.iconst 1, 1) := by decide +kernel
theorem dX8_take_52 : decode cX8_take 52 = .ok (.isub, 1) := by decide +kernel
theorem dX8_take_53 : decode cX8_take 53 = .ok (.laload, 1) := by decide +kernel
theorem dX8_take_54 : decode cX8_take 54 = .ok (.lastore, 1) := by decide +kernel
theorem dX8_take_55 : decode cX8_take 55 = .ok (.iinc 5 (-1), 3) := by decide +kernel
theorem dX8_take_58 : decode cX8_take 58 = .ok (.goto (-38), 3) := by decide +kernel
theorem dX8_take_61 : decode cX8_take 61 = .ok (.aload_n 0, 1) := by decide +kernel
theorem dX8_take_62 : decode cX8_take 62 = .ok (.getfield 45, 3) := by decide +kernel
theorem dX8_take_65 : decode cX8_take 65 = .ok (.iload 5, 2) := by decide +kernel
theorem dX8_take_67 : decode cX8_take 67 = .ok (.lload_n 3, 1) := by decide +kernel
theorem dX8_take_68 : decode cX8_take 68 = .ok (.lastore, 1) := by decide +kernel
theorem dX8_take_69 : decode cX8_take 69 = .ok (.aload_n 0, 1) := by decide +kernel
theorem dX8_take_70 : decode cX8_take 70 = .ok (.dup, 1) := by decide +kernel
theorem dX8_take_71 : decode cX8_take 71 = .ok (.getfield 130, 3) := by decide +kernel
theorem dX8_take_74 : decode cX8_take 74 = .ok (.iconst 1, 1) := by decide +kernel
theorem dX8_take_75 : decode cX8_take 75 = .ok (.iadd, 1) := by decide +kernel
theorem dX8_take_76 : decode cX8_take 76 = .ok (.putfield 130, 3) := by decide +kernel
theorem dX8_take_79 : decode cX8_take 79 = .ok (.iconst 1, 1) := by decide +kernel
theorem dX8_take_80 : decode cX8_take 80 = .ok (.ireturn, 1) := by decide +kernel
set_option maxRecDepth 20000 in
theorem ggX8_basis_X8_dimension : GoodIn wsX8_basis wsX8_dimension := goodIn_r _ [7, 8, 9, 10, 11, 12, 6, 13, 14, 15, 16, 17, 18, 19, 20, 21, 22, 23, 24, 25, 26, 27, 28, 53, 54, 55, 56, 57, 58, 59, 60, 61, 62, 63, 64, 65, 66, 67, 68, 69, 70, 71, 72] (by decide +kernel) (by decide +kernel)
set_option maxRecDepth 20000 in
theorem gX8_basis_X8_dimension : GoodIn wsX8_basis (wsV RX8 86 RX8 yX8_dimension wsX8_dimension) := goodIn_app (goodIn_of _ (by decide +kernel)) ggX8_basis_X8_dimension
set_option maxRecDepth 20000 in
theorem ggX8_basis_X8_throwing : GoodIn wsX8_basis wsX8_throwing := goodIn_r _ [32, 33, 53, 54, 55, 56, 57, 58, 59, 60, 61, 62, 63, 64, 65, 66, 67, 68, 69, 70, 71, 72] (by decide +kernel) (by decide +kernel)
set_option maxRecDepth 20000 in
theorem gX8_basis_X8_throwing : GoodIn wsX8_basis (wsV RX8 78 RX8 yX8_throwing wsX8_throwing) := goodIn_app (goodIn_of _ (by decide +kernel)) ggX8_basis_X8_throwing
set_option maxRecDepth 20000 in
theorem ggX8_basis_X8_spread : GoodIn wsX8_basis wsX8_spread := goodIn_r _ [37, 38, 18, 27, 2, 3, 4, 5, 6, 7, 8, 9, 10, 11, 12, 13, 14, 15, 16, 17, 19, 20, 21, 22, 23, 24, 25, 26, 28, 39, 40, 41, 42, 43, 53, 54, 55, 56, 57, 58, 59, 60, 61, 62, 63, 64, 65, 66, 67, 68, 69, 70, 71, 72] (by decide +kernel) (by decide +kernel)
set_option maxRecDepth 20000 in
theorem gX8_basis_X8_spread : GoodIn wsX8_basis (wsV RX8 127 RX8 yX8_spread wsX8_spread) := goodIn_app (goodIn_of _ (by decide +kernel)) ggX8_basis_X8_spread
set_option maxRecDepth 20000 in
theorem ggX8_basis_X8_rest : GoodIn wsX8_basis wsX8_rest := goodIn_r _ [47, 1, 48, 53, 54, 55, 56, 57, 58, 59, 60, 61, 62, 63, 64, 65, 66, 67, 68, 69, 70, 71, 72] (by decide +kernel) (by decide +kernel)
set_option maxRecDepth 20000 in
theorem gX8_basis_X8_rest : GoodIn wsX8_basis (wsV RX8 133 RX8 yX8_rest wsX8_rest) := goodIn_app (goodIn_of _ (by decide +kernel)) ggX8_basis_X8_rest
set_option maxRecDepth 20000 in
theorem ggX8_basis_X8_take : GoodIn wsX8_basis wsX8_take := goodIn_r _ [52, 1, 48, 44, 45, 46, 6, 47, 53, 54, 55, 56, 57, 58, 59, 60, 61, 62, 63, 64, 65, 66, 67, 68, 69, 70, 71, 72] (by decide +kernel) (by decide +kernel)
set_option maxRecDepth 20000 in
theorem gX8_basis_X8_take : GoodIn wsX8_basis (wsV RX8 136 RX8 yX8_take wsX8_take) := goodIn_app (goodIn_of _ (by decide +kernel)) ggX8_basis_X8_take
theorem dX8_basis_0 : decode cX8_basis 0 = .ok (.aload_n 0, 1) := by decide +kernel
theorem dX8_basis_1 : decode cX8_basis 1 = .ok (.invokevirtual 86, 3) := by decide +kernel
theorem dX8_basis_4 : decode cX8_basis 4 = .ok (.istore_n 2, 1) := by decide +kernel
theorem dX8_basis_5 : decode cX8_basis 5 = .ok (.aload_n 0, 1) := by decide +kernel
theorem dX8_basis_6 : decode cX8_basis 6 = .ok (.iload_n 1, 1) := by decide +kernel
theorem dX8_basis_7 : decode cX8_basis 7 = .ok (.ifCond .lt 8, 3) := by decide +kernel
theorem dX8_basis_10 : decode cX8_basis 10 = .ok (.iload_n 1, 1) := by decide +kernel
theorem dX8_basis_11 : decode cX8_basis 11 = .ok (.iload_n 2, 1) := by decide +kernel
theorem dX8_basis_12 : decode cX8_basis 12 = .ok (.if_icmp .lt 7, 3) := by decide +kernel
theorem dX8_basis_15 : decode cX8_basis 15 = .ok (.iconst 1, 1) := by decide +kernel
theorem dX8_basis_16 : decode cX8_basis 16 = .ok (.goto 4, 3) := by decide +kernel
theorem dX8_basis_19 : decode cX8_basis 19 = .ok (.iconst 0, 1) := by decide +kernel
theorem dX8_basis_20 : decode cX8_basis 20 = .ok (.iconst 0, 1) := by decide +kernel
theorem dX8_basis_21 : decode cX8_basis 21 = .ok (.invokevirtual 78, 3) := by decide +kernel
theorem dX8_basis_24 : decode cX8_basis 24 = .ok (.ifCond .eq 5, 3) := by decide +kernel
theorem dX8_basis_27 : decode cX8_basis 27 = .ok (.lconst 0, 1) := by decide +kernel
theorem dX8_basis_28 : decode cX8_basis 28 = .ok (.lreturn, 1) := by decide +kernel
theorem dX8_basis_29 : decode cX8_basis 29 = .ok (.aload_n 0, 1) := by decide +kernel
theorem dX8_basis_30 : decode cX8_basis 30 = .ok (.invokevirtual 127, 3) := by decide +kernel
theorem dX8_basis_33 : decode cX8_basis 33 = .ok (.istore_n 3, 1) := by decide +kernel
theorem dX8_basis_34 : decode cX8_basis 34 = .ok (.aload_n 0, 1) := by decide +kernel
theorem dX8_basis_35 : decode cX8_basis 35 = .ok (.iconst 0, 1) := by decide +kernel
theorem dX8_basis_36 : decode cX8_basis 36 = .ok (.putfield 130, 3) := by decide +kernel
theorem dX8_basis_39 : decode cX8_basis 39 = .ok (.lconst 0, 1) := by decide +kernel
theorem dX8_basis_40 : decode cX8_basis 40 = .ok (.lstore 4, 2) := by decide +kernel
theorem dX8_basis_42 : decode cX8_basis 42 = .ok (.iconst 0, 1) := by decide +kernel
theorem dX8_basis_43 : decode cX8_basis 43 = .ok (.istore 6, 2) := by decide +kernel
theorem dX8_basis_45 : decode cX8_basis 45 = .ok (.iload 6, 2) := by decide +kernel
theorem dX8_basis_47 : decode cX8_basis 47 = .ok (.iload_n 1, 1) := by decide +kernel
theorem dX8_basis_48 : decode cX8_basis 48 = .ok (.if_icmp .gt 83, 3) := by decide +kernel
theorem dX8_basis_51 : decode cX8_basis 51 = .ok (.iconst (-1), 1) := by decide +kernel
theorem dX8_basis_52 : decode cX8_basis 52 = .ok (.istore 7, 2) := by decide +kernel
theorem dX8_basis_54 : decode cX8_basis 54 = .ok (.iconst 1, 1) := by decide +kernel
theorem dX8_basis_55 : decode cX8_basis 55 = .ok (.istore 8, 2) := by decide +kernel
theorem dX8_basis_57 : decode cX8_basis 57 = .ok (.iload 8, 2) := by decide +kernel
theorem dX8_basis_59 : decode cX8_basis 59 = .ok (.iload_n 3, 1) := by decide +kernel
theorem dX8_basis_60 : decode cX8_basis 60 = .ok (.if_icmp .ge 48, 3) := by decide +kernel
theorem dX8_basis_63 : decode cX8_basis 63 = .ok (.iload 7, 2) := by decide +kernel
theorem dX8_basis_65 : decode cX8_basis 65 = .ok (.ifCond .lt 21, 3) := by decide +kernel
theorem dX8_basis_68 : decode cX8_basis 68 = .ok (.aload_n 0, 1) := by decide +kernel
theorem dX8_basis_69 : decode cX8_basis 69 = .ok (.getfield 42, 3) := by decide +kernel
theorem dX8_basis_72 : decode cX8_basis 72 = .ok (.iload 8, 2) := by decide +kernel
theorem dX8_basis_74 : decode cX8_basis 74 = .ok (.laload, 1) := by decide +kernel
theorem dX8_basis_75 : decode cX8_basis 75 = .ok (.aload_n 0, 1) := by decide +kernel
theorem dX8_basis_76 : decode cX8_basis 76 = .ok (.getfield 42, 3) := by decide +kernel
theorem dX8_basis_79 : decode cX8_basis 79 = .ok (.iload 7, 2) := by decide +kernel
theorem dX8_basis_81 : decode cX8_basis 81 = .ok (.laload, 1) := by decide +kernel
theorem dX8_basis_82 : decode cX8_basis 82 = .ok (.lcmp, 1) := by decide +kernel
theorem dX8_basis_83 : decode cX8_basis 83 = .ok (.ifCond .ge 19, 3) := by decide +kernel
theorem dX8_basis_86 : decode cX8_basis 86 = .ok (.aload_n 0, 1) := by decide +kernel
theorem dX8_basis_87 : decode cX8_basis 87 = .ok (.iload 8, 2) := by decide +kernel
theorem dX8_basis_89 : decode cX8_basis 89 = .ok (.i2l, 1) := by decide +kernel
theorem dX8_basis_90 : decode cX8_basis 90 = .ok (.invokevirtual 133, 3) := by decide +kernel
theorem dX8_basis_93 : decode cX8_basis 93 = .ok (.lconst 0, 1) := by decide +kernel
theorem dX8_basis_94 : decode cX8_basis 94 = .ok (.lcmp, 1) := by decide +kernel
theorem dX8_basis_95 : decode cX8_basis 95 = .ok (.ifCond .eq 7, 3) := by decide +kernel
theorem dX8_basis_98 : decode cX8_basis 98 = .ok (.iload 8, 2) := by decide +kernel
theorem dX8_basis_100 : decode cX8_basis 100 = .ok (.istore 7, 2) := by decide +kernel
theorem dX8_basis_102 : decode cX8_basis 102 = .ok (.iinc 8 1, 3) := by decide +kernel
theorem dX8_basis_105 : decode cX8_basis 105 = .ok (.goto (-48), 3) := by decide +kernel
theorem dX8_basis_108 : decode cX8_basis 108 = .ok (.aload_n 0, 1) := by decide +kernel
theorem dX8_basis_109 : decode cX8_basis 109 = .ok (.getfield 42, 3) := by decide +kernel
theorem dX8_basis_112 : decode cX8_basis 112 = .ok (.iload 7, 2) := by decide +kernel
theorem dX8_basis_114 : decode cX8_basis 114 = .ok (.laload, 1) := by decide +kernel
theorem dX8_basis_115 : decode cX8_basis 115 = .ok (.lstore 4, 2) := by decide +kernel
theorem dX8_basis_117 : decode cX8_basis 117 = .ok (.aload_n 0, 1) := by decide +kernel
theorem dX8_basis_118 : decode cX8_basis 118 = .ok (.iload 7, 2) := by decide +kernel
theorem dX8_basis_120 : decode cX8_basis 120 = .ok (.i2l, 1) := by decide +kernel
theorem dX8_basis_121 : decode cX8_basis 121 = .ok (.invokevirtual 136, 3) := by decide +kernel
theorem dX8_basis_124 : decode cX8_basis 124 = .ok (.pop, 1) := by decide +kernel
theorem dX8_basis_125 : decode cX8_basis 125 = .ok (.iinc 6 1, 3) := by decide +kernel
theorem dX8_basis_128 : decode cX8_basis 128 = .ok (.goto (-83), 3) := by decide +kernel
theorem dX8_basis_131 : decode cX8_basis 131 = .ok (.lload 4, 2) := by decide +kernel
theorem dX8_basis_133 : decode cX8_basis 133 = .ok (.lreturn, 1) := by decide +kernel
theorem dX8_numberOf_0 : decode cX8_numberOf 0 = .ok (.iconst 0, 1) := by decide +kernel
theorem dX8_numberOf_1 : decode cX8_numberOf 1 = .ok (.istore_n 3, 1) := by decide +kernel
theorem dX8_numberOf_2 : decode cX8_numberOf 2 = .ok (.iconst 0, 1) := by decide +kernel
theorem dX8_numberOf_3 : decode cX8_numberOf 3 = .ok (.istore 4, 2) := by decide +kernel
theorem dX8_numberOf_5 : decode cX8_numberOf 5 = .ok (.iload 4, 2) := by decide +kernel
theorem dX8_numberOf_7 : decode cX8_numberOf 7 = .ok (.aload_n 0, 1) := by decide +kernel
theorem dX8_numberOf_8 : decode cX8_numberOf 8 = .ok (.getfield 64, 3) := by decide +kernel
theorem dX8_numberOf_11 : decode cX8_numberOf 11 = .ok (.if_icmp .ge 36, 3) := by decide +kernel
theorem dX8_numberOf_14 : decode cX8_numberOf 14 = .ok (.iload_n 3, 1) := by decide +kernel
theorem dX8_numberOf_15 : decode cX8_numberOf 15 = .ok (.lload_n 1, 1) := by decide +kernel
theorem dX8_numberOf_16 : decode cX8_numberOf 16 = .ok (.aload_n 0, 1) := by decide +kernel
theorem dX8_numberOf_17 : decode cX8_numberOf 17 = .ok (.getfield 36, 3) := by decide +kernel
theorem dX8_numberOf_20 : decode cX8_numberOf 20 = .ok (.iload 4, 2) := by decide +kernel
theorem dX8_numberOf_22 : decode cX8_numberOf 22 = .ok (.iaload, 1) := by decide +kernel
theorem dX8_numberOf_23 : decode cX8_numberOf 23 = .ok (.lshr, 1) := by decide +kernel
theorem dX8_numberOf_24 : decode cX8_numberOf 24 = .ok (.lconst 1, 1) := by decide +kernel
theorem dX8_numberOf_25 : decode cX8_numberOf 25 = .ok (.land, 1) := by decide +kernel
theorem dX8_numberOf_26 : decode cX8_numberOf 26 = .ok (.lconst 1, 1) := by decide +kernel
theorem dX8_numberOf_27 : decode cX8_numberOf 27 = .ok (.lcmp, 1) := by decide +kernel
theorem dX8_numberOf_28 : decode cX8_numberOf 28 = .ok (.ifCond .ne 10, 3) := by decide +kernel
theorem dX8_numberOf_31 : decode cX8_numberOf 31 = .ok (.iconst 1, 1) := by decide +kernel
theorem dX8_numberOf_32 : decode cX8_numberOf 32 = .ok (.iload 4, 2) := by decide +kernel
theorem dX8_numberOf_34 : decode cX8_numberOf 34 = .ok (.ishl, 1) := by decide +kernel
theorem dX8_numberOf_35 : decode cX8_numberOf 35 = .ok (.goto 4, 3) := by decide +kernel
theorem dX8_numberOf_38 : decode cX8_numberOf 38 = .ok (.iconst 0, 1) := by decide +kernel
theorem dX8_numberOf_39 : decode cX8_numberOf 39 = .ok (.ior, 1) := by decide +kernel
theorem dX8_numberOf_40 : decode cX8_numberOf 40 = .ok (.istore_n 3, 1) := by decide +kernel
theorem dX8_numberOf_41 : decode cX8_numberOf 41 = .ok (.iinc 4 1, 3) := by decide +kernel
theorem dX8_numberOf_44 : decode cX8_numberOf 44 = .ok (.goto (-39), 3) := by decide +kernel
theorem dX8_numberOf_47 : decode cX8_numberOf 47 = .ok (.iload_n 3, 1) := by decide +kernel
theorem dX8_numberOf_48 : decode cX8_numberOf 48 = .ok (.ireturn, 1) := by decide +kernel
set_option maxRecDepth 20000 in
theorem ggX8_belongs_X8_isSet : GoodIn wsX8_belongs wsX8_isSet := goodIn_r _ [7, 8, 69, 70, 71, 72, 73, 74, 75, 76, 77, 78, 79, 80, 81, 82, 83, 84, 85, 86, 87, 88] (by decide +kernel) (by decide +kernel)
set_option maxRecDepth 20000 in
theorem gX8_belongs_X8_isSet : GoodIn wsX8_belongs (wsV RX8 89 RX8 yX8_isSet wsX8_isSet) := goodIn_app (goodIn_of _ (by decide +kernel)) ggX8_belongs_X8_isSet
set_option maxRecDepth 20000 in
theorem ggX8_belongs_X8_throwing : GoodIn wsX8_belongs wsX8_throwing := goodIn_r _ [12, 13, 69, 70, 71, 72, 73, 74, 75, 76, 77, 78, 79, 80, 81, 82, 83, 84, 85, 86, 87, 88] (by decide +kernel) (by decide +kernel)
set_option maxRecDepth 20000 in
theorem gX8_belongs_X8_throwing : GoodIn wsX8_belongs (wsV RX8 78 RX8 yX8_throwing wsX8_throwing) := goodIn_app (goodIn_of _ (by decide +kernel)) ggX8_belongs_X8_throwing
set_option maxRecDepth 20000 in
theorem ggX8_belongs_X8_isEven : GoodIn wsX8_belongs wsX8_isEven := goodIn_r _ [17, 18, 19, 20, 21, 6, 22, 8, 23, 24, 69, 70, 71, 72, 73, 74, 75, 76, 77, 78, 79, 80, 81, 82, 83, 84, 85, 86, 87, 88] (by decide +kernel) (by decide +kernel)
set_option maxRecDepth 20000 in
theorem gX8_belongs_X8_isEven : GoodIn wsX8_belongs (wsV RX8 121 RX8 yX8_isEven wsX8_isEven) := goodIn_app (goodIn_of _ (by decide +kernel)) ggX8_belongs_X8_isEven
set_option maxRecDepth 20000 in
theorem ggX8_belongs_X8_spread : GoodIn wsX8_belongs wsX8_spread := goodIn_r _ [28, 29, 30, 31, 2, 32, 33, 34, 6, 35, 8, 18, 36, 37, 38, 39, 40, 41, 42, 43, 44, 45, 46, 47, 48, 49, 23, 24, 50, 51, 52, 53, 54, 55, 69, 70, 71, 72, 73, 74, 75, 76, 77, 78, 79, 80, 81, 82, 83, 84, 85, 86, 87, 88] (by decide +kernel) (by decide +kernel)
set_option maxRecDepth 20000 in
theorem gX8_belongs_X8_spread : GoodIn wsX8_belongs (wsV RX8 127 RX8 yX8_spread wsX8_spread) := goodIn_app (goodIn_of _ (by decide +kernel)) ggX8_belongs_X8_spread
set_option maxRecDepth 20000 in
theorem ggX8_belongs_X8_numberOf : GoodIn wsX8_belongs wsX8_numberOf := goodIn_r _ [59, 30, 50, 69, 70, 71, 72, 73, 74, 75, 76, 77, 78, 79, 80, 81, 82, 83, 84, 85, 86, 87, 88] (by decide +kernel) (by decide +kernel)
set_option maxRecDepth 20000 in
theorem gX8_belongs_X8_numberOf : GoodIn wsX8_belongs (wsV RX8 139 RX8 yX8_numberOf wsX8_numberOf) := goodIn_app (goodIn_of _ (by decide +kernel)) ggX8_belongs_X8_numberOf
set_option maxRecDepth 20000 in
theorem ggX8_belongs_X8_take : GoodIn wsX8_belongs wsX8_take := goodIn_r _ [63, 1, 64, 65, 66, 67, 6, 68, 69, 70, 71, 72, 73, 74, 75, 76, 77, 78, 79, 80, 81, 82, 83, 84, 85, 86, 87, 88] (by decide +kernel) (by decide +kernel)
set_option maxRecDepth 20000 in
theorem gX8_belongs_X8_take : GoodIn wsX8_belongs (wsV RX8 136 RX8 yX8_take wsX8_take) := goodIn_app (goodIn_of _ (by decide +kernel)) ggX8_belongs_X8_take
set_option maxRecDepth 20000 in
theorem ggX8_belongs_X8_rest : GoodIn wsX8_belongs wsX8_rest := goodIn_r _ [68, 1, 64, 69, 70, 71, 72, 73, 74, 75, 76, 77, 78, 79, 80, 81, 82, 83, 84, 85, 86, 87, 88] (by decide +kernel) (by decide +kernel)
set_option maxRecDepth 20000 in
theorem gX8_belongs_X8_rest : GoodIn wsX8_belongs (wsV RX8 133 RX8 yX8_rest wsX8_rest) := goodIn_app (goodIn_of _ (by decide +kernel)) ggX8_belongs_X8_rest
theorem dX8_belongs_0 : decode cX8_belongs 0 = .ok (.aload_n 0, 1) := by decide +kernel
theorem dX8_belongs_1 : decode cX8_belongs 1 = .ok (.aload_n 0, 1) := by decide +kernel
theorem dX8_belongs_2 : decode cX8_belongs 2 = .ok (.lload_n 1, 1) := by decide +kernel
theorem dX8_belongs_3 : decode cX8_belongs 3 = .ok (.invokevirtual 89, 3) := by decide +kernel
theorem dX8_belongs_6 : decode cX8_belongs 6 = .ok (.ifCond .ne 7, 3) := by decide +kernel
theorem dX8_belongs_9 : decode cX8_belongs 9 = .ok (.iconst 1, 1) := by decide +kernel
theorem dX8_belongs_10 : decode cX8_belongs 10 = .ok (.goto 4, 3) := by decide +kernel
theorem dX8_belongs_13 : decode cX8_belongs 13 = .ok (.iconst 0, 1) := by decide +kernel
theorem dX8_belongs_14 : decode cX8_belongs 14 = .ok (.iconst 0, 1) := by decide +kernel
theorem dX8_belongs_15 : decode cX8_belongs 15 = .ok (.invokevirtual 78, 3) := by decide +kernel
theorem dX8_belongs_18 : decode cX8_belongs 18 = .ok (.ifCond .eq 5, 3) := by decide +kernel
theorem dX8_belongs_21 : decode cX8_belongs 21 = .ok (.iconst 0, 1) := by decide +kernel
theorem dX8_belongs_22 : decode cX8_belongs 22 = .ok (.ireturn, 1) := by decide +kernel
theorem dX8_belongs_23 : decode cX8_belongs 23 = .ok (.lload_n 1, 1) := by decide +kernel
theorem dX8_belongs_24 : decode cX8_belongs 24 = .ok (.lconst 0, 1) := by decide +kernel
theorem dX8_belongs_25 : decode cX8_belongs 25 = .ok (.lcmp, 1) := by decide +kernel
theorem dX8_belongs_26 : decode cX8_belongs 26 = .ok (.ifCond .eq 11, 3) := by decide +kernel
theorem dX8_belongs_29 : decode cX8_belongs 29 = .ok (.aload_n 0, 1) := by decide +kernel
theorem dX8_belongs_30 : decode cX8_belongs 30 = .ok (.lload_n 1, 1) := by decide +kernel
theorem dX8_belongs_31 : decode cX8_belongs 31 = .ok (.invokevirtual 121, 3) := by decide +kernel
theorem dX8_belongs_34 : decode cX8_belongs 34 = .ok (.ifCond .ne 5, 3) := by decide +kernel
theorem dX8_belongs_37 : decode cX8_belongs 37 = .ok (.iconst 0, 1) := by decide +kernel
theorem dX8_belongs_38 : decode cX8_belongs 38 = .ok (.ireturn, 1) := by decide +kernel
theorem dX8_belongs_39 : decode cX8_belongs 39 = .ok (.aload_n 0, 1) := by decide +kernel
theorem dX8_belongs_40 : decode cX8_belongs 40 = .ok (.invokevirtual 127, 3) := by decide +kernel
theorem dX8_belongs_43 : decode cX8_belongs 43 = .ok (.istore_n 3, 1) := by decide +kernel
theorem dX8_belongs_44 : decode cX8_belongs 44 = .ok (.aload_n 0, 1) := by decide +kernel
theorem dX8_belongs_45 : decode cX8_belongs 45 = .ok (.lload_n 1, 1) := by decide +kernel
theorem dX8_belongs_46 : decode cX8_belongs 46 = .ok (.invokevirtual 139, 3) := by decide +kernel
theorem dX8_belongs_49 : decode cX8_belongs 49 = .ok (.istore 4, 2) := by decide +kernel
theorem dX8_belongs_51 : decode cX8_belongs 51 = .ok (.aload_n 0, 1) := by decide +kernel
theorem dX8_belongs_52 : decode cX8_belongs 52 = .ok (.iconst 0, 1) := by decide +kernel
theorem dX8_belongs_53 : decode cX8_belongs 53 = .ok (.putfield 130, 3) := by decide +kernel
theorem dX8_belongs_56 : decode cX8_belongs 56 = .ok (.iconst 1, 1) := by decide +kernel
theorem dX8_belongs_57 : decode cX8_belongs 57 = .ok (.istore 5, 2) := by decide +kernel
theorem dX8_belongs_59 : decode cX8_belongs 59 = .ok (.iload 5, 2) := by decide +kernel
theorem dX8_belongs_61 : decode cX8_belongs 61 = .ok (.iload_n 3, 1) := by decide +kernel
theorem dX8_belongs_62 : decode cX8_belongs 62 = .ok (.if_icmp .ge 39, 3) := by decide +kernel
theorem dX8_belongs_65 : decode cX8_belongs 65 = .ok (.aload_n 0, 1) := by decide +kernel
theorem dX8_belongs_66 : decode cX8_belongs 66 = .ok (.getfield 42, 3) := by decide +kernel
theorem dX8_belongs_69 : decode cX8_belongs 69 = .ok (.iload 5, 2) := by decide +kernel
theorem dX8_belongs_71 : decode cX8_belongs 71 = .ok (.laload, 1) := by decide +kernel
theorem dX8_belongs_72 : decode cX8_belongs 72 = .ok (.aload_n 0, 1) := by decide +kernel
theorem dX8_belongs_73 : decode cX8_belongs 73 = .ok (.getfield 42, 3) := by decide +kernel
theorem dX8_belongs_76 : decode cX8_belongs 76 = .ok (.iload 4, 2) := by decide +kernel
theorem dX8_belongs_78 : decode cX8_belongs 78 = .ok (.laload, 1) := by decide +kernel
theorem dX8_belongs_79 : decode cX8_belongs 79 = .ok (.lcmp, 1) := by decide +kernel
theorem dX8_belongs_80 : decode cX8_belongs 80 = .ok (.ifCond .lt 6, 3) := by decide +kernel
theorem dX8_belongs_83 : decode cX8_belongs 83 = .ok (.goto 12, 3) := by decide +kernel
theorem dX8_belongs_86 : decode cX8_belongs 86 = .ok (.aload_n 0, 1) := by decide +kernel
theorem dX8_belongs_87 : decode cX8_belongs 87 = .ok (.iload 5, 2) := by decide +kernel
theorem dX8_belongs_89 : decode cX8_belongs 89 = .ok (.i2l, 1) := by decide +kernel
theorem dX8_belongs_90 : decode cX8_belongs 90 = .ok (.invokevirtual 136, 3) := by decide +kernel
theorem dX8_belongs_93 : decode cX8_belongs 93 = .ok (.istore 6, 2) := by decide +kernel
theorem dX8_belongs_95 : decode cX8_belongs 95 = .ok (.iinc 5 1, 3) := by decide +kernel
theorem dX8_belongs_98 : decode cX8_belongs 98 = .ok (.goto (-39), 3) := by decide +kernel
theorem dX8_belongs_101 : decode cX8_belongs 101 = .ok (.aload_n 0, 1) := by decide +kernel
theorem dX8_belongs_102 : decode cX8_belongs 102 = .ok (.iload 4, 2) := by decide +kernel
theorem dX8_belongs_104 : decode cX8_belongs 104 = .ok (.i2l, 1) := by decide +kernel
theorem dX8_belongs_105 : decode cX8_belongs 105 = .ok (.invokevirtual 133, 3) := by decide +kernel
theorem dX8_belongs_108 : decode cX8_belongs 108 = .ok (.lconst 0, 1) := by decide +kernel
theorem dX8_belongs_109 : decode cX8_belongs 109 = .ok (.lcmp, 1) := by decide +kernel
theorem dX8_belongs_110 : decode cX8_belongs 110 = .ok (.ifCond .eq 7, 3) := by decide +kernel
theorem dX8_belongs_113 : decode cX8_belongs 113 = .ok (.iconst 1, 1) := by decide +kernel
theorem dX8_belongs_114 : decode cX8_belongs 114 = .ok (.goto 4, 3) := by decide +kernel
theorem dX8_belongs_117 : decode cX8_belongs 117 = .ok (.iconst 0, 1) := by decide +kernel
theorem dX8_belongs_118 : decode cX8_belongs 118 = .ok (.ireturn, 1) := by decide +kernel
set_option maxRecDepth 20000 in
theorem ggX8_cycles_X8_spread : GoodIn wsX8_cycles wsX8_spread := goodIn_r _ [7, 2, 8, 9, 10, 11, 12, 13, 6, 14, 15, 16, 17, 18, 19, 20, 21, 22, 23, 24, 25, 26, 27, 28, 29, 30, 31, 32, 33, 34, 35, 36, 37, 38, 47, 48, 49, 50, 51, 52, 53, 54, 55, 56, 57, 58, 59, 60, 61, 62, 63, 64, 65, 66] (by decide +kernel) (by decide +kernel)
set_option maxRecDepth 20000 in
theorem gX8_cycles_X8_spread : GoodIn wsX8_cycles (wsV RX8 127 RX8 yX8_spread wsX8_spread) := goodIn_app (goodIn_of _ (by decide +kernel)) ggX8_cycles_X8_spread
set_option maxRecDepth 20000 in
theorem ggX8_cycles_X8_isRing : GoodIn wsX8_cycles wsX8_isRing := goodIn_r _ [42, 16, 15, 43, 44, 45, 6, 46, 31, 32, 21, 22, 23, 24, 8, 25, 26, 27, 28, 29, 30, 9, 33, 47, 48, 49, 50, 51, 52, 53, 54, 55, 56, 57, 58, 59, 60, 61, 62, 63, 64, 65, 66] (by decide +kernel) (by decide +kernel)
set_option maxRecDepth 20000 in
theorem gX8_cycles_X8_isRing : GoodIn wsX8_cycles (wsV RX8 124 RX8 yX8_isRing wsX8_isRing) := goodIn_app (goodIn_of _ (by decide +kernel)) ggX8_cycles_X8_isRing
theorem dX8_cycles_0 : decode cX8_cycles 0 = .ok (.aload_n 0, 1) := by decide +kernel
theorem dX8_cycles_1 : decode cX8_cycles 1 = .ok (.iconst 0, 1) := by decide +kernel
theorem dX8_cycles_2 : decode cX8_cycles 2 = .ok (.putfield 58, 3) := by decide +kernel
theorem dX8_cycles_5 : decode cX8_cycles 5 = .ok (.aload_n 0, 1) := by decide +kernel
theorem dX8_cycles_6 : decode cX8_cycles 6 = .ok (.invokevirtual 127, 3) := by decide +kernel
theorem dX8_cycles_9 : decode cX8_cycles 9 = .ok (.istore_n 1, 1) := by decide +kernel
theorem dX8_cycles_10 : decode cX8_cycles 10 = .ok (.iconst 0, 1) := by decide +kernel
theorem dX8_cycles_11 : decode cX8_cycles 11 = .ok (.istore_n 2, 1) := by decide +kernel
theorem dX8_cycles_12 : decode cX8_cycles 12 = .ok (.iconst 1, 1) := by decide +kernel
theorem dX8_cycles_13 : decode cX8_cycles 13 = .ok (.istore_n 3, 1) := by decide +kernel
theorem dX8_cycles_14 : decode cX8_cycles 14 = .ok (.iload_n 3, 1) := by decide +kernel
theorem dX8_cycles_15 : decode cX8_cycles 15 = .ok (.iload_n 1, 1) := by decide +kernel
theorem dX8_cycles_16 : decode cX8_cycles 16 = .ok (.if_icmp .ge 30, 3) := by decide +kernel
theorem dX8_cycles_19 : decode cX8_cycles 19 = .ok (.iload_n 2, 1) := by decide +kernel
theorem dX8_cycles_20 : decode cX8_cycles 20 = .ok (.aload_n 0, 1) := by decide +kernel
theorem dX8_cycles_21 : decode cX8_cycles 21 = .ok (.aload_n 0, 1) := by decide +kernel
theorem dX8_cycles_22 : decode cX8_cycles 22 = .ok (.getfield 39, 3) := by decide +kernel
theorem dX8_cycles_25 : decode cX8_cycles 25 = .ok (.iload_n 3, 1) := by decide +kernel
theorem dX8_cycles_26 : decode cX8_cycles 26 = .ok (.laload, 1) := by decide +kernel
theorem dX8_cycles_27 : decode cX8_cycles 27 = .ok (.invokevirtual 124, 3) := by decide +kernel
theorem dX8_cycles_30 : decode cX8_cycles 30 = .ok (.ifCond .eq 7, 3) := by decide +kernel
theorem dX8_cycles_33 : decode cX8_cycles 33 = .ok (.iconst 1, 1) := by decide +kernel
theorem dX8_cycles_34 : decode cX8_cycles 34 = .ok (.goto 4, 3) := by decide +kernel
theorem dX8_cycles_37 : decode cX8_cycles 37 = .ok (.iconst 0, 1) := by decide +kernel
theorem dX8_cycles_38 : decode cX8_cycles 38 = .ok (.iadd, 1) := by decide +kernel
theorem dX8_cycles_39 : decode cX8_cycles 39 = .ok (.istore_n 2, 1) := by decide +kernel
theorem dX8_cycles_40 : decode cX8_cycles 40 = .ok (.iinc 3 1, 3) := by decide +kernel
theorem dX8_cycles_43 : decode cX8_cycles 43 = .ok (.goto (-29), 3) := by decide +kernel
theorem dX8_cycles_46 : decode cX8_cycles 46 = .ok (.iload_n 2, 1) := by decide +kernel
theorem dX8_cycles_47 : decode cX8_cycles 47 = .ok (.ireturn, 1) := by decide +kernel
set_option maxRecDepth 20000 in
theorem ggX8_light_X8_spread : GoodIn wsX8_light wsX8_spread := goodIn_r _ [7, 8, 9, 10, 2, 11, 12, 13, 6, 14, 15, 16, 17, 18, 19, 20, 21, 22, 23, 24, 25, 26, 27, 28, 29, 30, 31, 32, 33, 34, 35, 36, 37, 38, 39, 40, 41, 42, 43, 44, 45, 46, 47, 48, 49, 50, 51, 52, 53, 54, 55, 56, 57, 58] (by decide +kernel) (by decide +kernel)
set_option maxRecDepth 20000 in
theorem gX8_light_X8_spread : GoodIn wsX8_light (wsV RX8 127 RX8 yX8_spread wsX8_spread) := goodIn_app (goodIn_of _ (by decide +kernel)) ggX8_light_X8_spread
theorem dX8_light_0 : decode cX8_light 0 = .ok (.aload_n 0, 1) := by decide +kernel
theorem dX8_light_1 : decode cX8_light 1 = .ok (.iconst 0, 1) := by decide +kernel
theorem dX8_light_2 : decode cX8_light 2 = .ok (.putfield 58, 3) := by decide +kernel
theorem dX8_light_5 : decode cX8_light 5 = .ok (.aload_n 0, 1) := by decide +kernel
theorem dX8_light_6 : decode cX8_light 6 = .ok (.invokevirtual 127, 3) := by decide +kernel
theorem dX8_light_9 : decode cX8_light 9 = .ok (.istore_n 3, 1) := by decide +kernel
theorem dX8_light_10 : decode cX8_light 10 = .ok (.iconst 0, 1) := by decide +kernel
theorem dX8_light_11 : decode cX8_light 11 = .ok (.istore 4, 2) := by decide +kernel
theorem dX8_light_13 : decode cX8_light 13 = .ok (.iconst 0, 1) := by decide +kernel
theorem dX8_light_14 : decode cX8_light 14 = .ok (.istore 5, 2) := by decide +kernel
theorem dX8_light_16 : decode cX8_light 16 = .ok (.iload 5, 2) := by decide +kernel
theorem dX8_light_18 : decode cX8_light 18 = .ok (.iload_n 3, 1) := by decide +kernel
theorem dX8_light_19 : decode cX8_light 19 = .ok (.if_icmp .ge 31, 3) := by decide +kernel
theorem dX8_light_22 : decode cX8_light 22 = .ok (.iload 4, 2) := by decide +kernel
theorem dX8_light_24 : decode cX8_light 24 = .ok (.aload_n 0, 1) := by decide +kernel
theorem dX8_light_25 : decode cX8_light 25 = .ok (.getfield 42, 3) := by decide +kernel
theorem dX8_light_28 : decode cX8_light 28 = .ok (.iload 5, 2) := by decide +kernel
theorem dX8_light_30 : decode cX8_light 30 = .ok (.laload, 1) := by decide +kernel
theorem dX8_light_31 : decode cX8_light 31 = .ok (.lload_n 1, 1) := by decide +kernel
theorem dX8_light_32 : decode cX8_light 32 = .ok (.lcmp, 1) := by decide +kernel
theorem dX8_light_33 : decode cX8_light 33 = .ok (.ifCond .gt 7, 3) := by decide +kernel
theorem dX8_light_36 : decode cX8_light 36 = .ok (.iconst 1, 1) := by decide +kernel
theorem dX8_light_37 : decode cX8_light 37 = .ok (.goto 4, 3) := by decide +kernel
theorem dX8_light_40 : decode cX8_light 40 = .ok (.iconst 0, 1) := by decide +kernel
theorem dX8_light_41 : decode cX8_light 41 = .ok (.iadd, 1) := by decide +kernel
theorem dX8_light_42 : decode cX8_light 42 = .ok (.istore 4, 2) := by decide +kernel
theorem dX8_light_44 : decode cX8_light 44 = .ok (.iinc 5 1, 3) := by decide +kernel
theorem dX8_light_47 : decode cX8_light 47 = .ok (.goto (-31), 3) := by decide +kernel
theorem dX8_light_50 : decode cX8_light 50 = .ok (.iload 4, 2) := by decide +kernel
theorem dX8_light_52 : decode cX8_light 52 = .ok (.ireturn, 1) := by decide +kernel
set_option maxRecDepth 20000 in
theorem ggX8_add_X8_throwing : GoodIn wsX8_add wsX8_throwing := goodIn_r _ [7, 8, 9, 10, 11, 12, 13, 14, 15, 16, 17, 18, 19, 20, 21, 22, 23, 24, 25, 26, 27, 28] (by decide +kernel) (by decide +kernel)
set_option maxRecDepth 20000 in
theorem gX8_add_X8_throwing : GoodIn wsX8_add (wsV RX8 78 RX8 yX8_throwing wsX8_throwing) := goodIn_app (goodIn_of _ (by decide +kernel)) ggX8_add_X8_throwing
theorem dX8_add_0 : decode cX8_add 0 = .ok (.aload_n 0, 1) := by decide +kernel
theorem dX8_add_1 : decode cX8_add 1 = .ok (.lload_n 1, 1) := by decide +kernel
theorem dX8_add_2 : decode cX8_add 2 = .ok (.bipush 40, 2) := by decide +kernel
theorem dX8_add_4 : decode cX8_add 4 = .ok (.lushr, 1) := by decide +kernel
theorem dX8_add_5 : decode cX8_add 5 = .ok (.lconst 0, 1) := by decide +kernel
theorem dX8_add_6 : decode cX8_add 6 = .ok (.lcmp, 1) := by decide +kernel
theorem dX8_add_7 : decode cX8_add 7 = .ok (.ifCond .eq 7, 3) := by decide +kernel
theorem dX8_add_10 : decode cX8_add 10 = .ok (.iconst 1, 1) := by decide +kernel
theorem dX8_add_11 : decode cX8_add 11 = .ok (.goto 4, 3) := by decide +kernel
theorem dX8_add_14 : decode cX8_add 14 = .ok (.iconst 0, 1) := by decide +kernel
theorem dX8_add_15 : decode cX8_add 15 = .ok (.aload_n 0, 1) := by decide +kernel
theorem dX8_add_16 : decode cX8_add 16 = .ok (.getfield 143, 3) := by decide +kernel
theorem dX8_add_19 : decode cX8_add 19 = .ok (.bipush 64, 2) := by decide +kernel
theorem dX8_add_21 : decode cX8_add 21 = .ok (.if_icmp .ne 7, 3) := by decide +kernel
theorem dX8_add_24 : decode cX8_add 24 = .ok (.iconst 1, 1) := by decide +kernel
theorem dX8_add_25 : decode cX8_add 25 = .ok (.goto 4, 3) := by decide +kernel
theorem dX8_add_28 : decode cX8_add 28 = .ok (.iconst 0, 1) := by decide +kernel
theorem dX8_add_29 : decode cX8_add 29 = .ok (.invokevirtual 78, 3) := by decide +kernel
theorem dX8_add_32 : decode cX8_add 32 = .ok (.ifCond .eq 5, 3) := by decide +kernel
theorem dX8_add_35 : decode cX8_add 35 = .ok (.iconst 0, 1) := by decide +kernel
theorem dX8_add_36 : decode cX8_add 36 = .ok (.ireturn, 1) := by decide +kernel
theorem dX8_add_37 : decode cX8_add 37 = .ok (.aload_n 0, 1) := by decide +kernel
theorem dX8_add_38 : decode cX8_add 38 = .ok (.getfield 23, 3) := by decide +kernel
theorem dX8_add_41 : decode cX8_add 41 = .ok (.aload_n 0, 1) := by decide +kernel
theorem dX8_add_42 : decode cX8_add 42 = .ok (.getfield 143, 3) := by decide +kernel
theorem dX8_add_45 : decode cX8_add 45 = .ok (.lload_n 1, 1) := by decide +kernel
theorem dX8_add_46 : decode cX8_add 46 = .ok (.lastore, 1) := by decide +kernel
theorem dX8_add_47 : decode cX8_add 47 = .ok (.aload_n 0, 1) := by decide +kernel
theorem dX8_add_48 : decode cX8_add 48 = .ok (.dup, 1) := by decide +kernel
theorem dX8_add_49 : decode cX8_add 49 = .ok (.getfield 143, 3) := by decide +kernel
theorem dX8_add_52 : decode cX8_add 52 = .ok (.iconst 1, 1) := by decide +kernel
theorem dX8_add_53 : decode cX8_add 53 = .ok (.iadd, 1) := by decide +kernel
theorem dX8_add_54 : decode cX8_add 54 = .ok (.putfield 143, 3) := by decide +kernel
theorem dX8_add_57 : decode cX8_add 57 = .ok (.aload_n 0, 1) := by decide +kernel
theorem dX8_add_58 : decode cX8_add 58 = .ok (.getfield 143, 3) := by decide +kernel
theorem dX8_add_61 : decode cX8_add 61 = .ok (.ireturn, 1) := by decide +kernel
theorem dX8_clear_0 : decode cX8_clear 0 = .ok (.aload_n 0, 1) := by decide +kernel
theorem dX8_clear_1 : decode cX8_clear 1 = .ok (.iconst 0, 1) := by decide +kernel
theorem dX8_clear_2 : decode cX8_clear 2 = .ok (.putfield 58, 3) := by decide +kernel
theorem dX8_clear_5 : decode cX8_clear 5 = .ok (.aload_n 0, 1) := by decide +kernel
theorem dX8_clear_6 : decode cX8_clear 6 = .ok (.getfield 143, 3) := by decide +kernel
theorem dX8_clear_9 : decode cX8_clear 9 = .ok (.istore_n 1, 1) := by decide +kernel
theorem dX8_clear_10 : decode cX8_clear 10 = .ok (.aload_n 0, 1) := by decide +kernel
theorem dX8_clear_11 : decode cX8_clear 11 = .ok (.iconst 0, 1) := by decide +kernel
theorem dX8_clear_12 : decode cX8_clear 12 = .ok (.putfield 143, 3) := by decide +kernel
theorem dX8_clear_15 : decode cX8_clear 15 = .ok (.iload_n 1, 1) := by decide +kernel
theorem dX8_clear_16 : decode cX8_clear 16 = .ok (.ireturn, 1) := by decide +kernel
set_option maxRecDepth 20000 in
theorem ggX8_takeList_X8_take : GoodIn wsX8_takeList wsX8_take := goodIn_r _ [8, 1, 9, 10, 11, 12, 7, 13, 14, 15, 16, 17, 18, 19, 20, 21, 22, 23, 24, 25, 26, 27, 28, 29, 30, 31, 32, 33] (by decide +kernel) (by decide +kernel)
set_option maxRecDepth 20000 in
theorem gX8_takeList_X8_take : GoodIn wsX8_takeList (wsV RX8 136 RX8 yX8_take wsX8_take) := goodIn_app (goodIn_of _ (by decide +kernel)) ggX8_takeList_X8_take
theorem dX8_takeList_0 : decode cX8_takeList 0 = .ok (.aload_n 0, 1) := by decide +kernel
theorem dX8_takeList_1 : decode cX8_takeList 1 = .ok (.iconst 0, 1) := by decide +kernel
theorem dX8_takeList_2 : decode cX8_takeList 2 = .ok (.putfield 130, 3) := by decide +kernel
theorem dX8_takeList_5 : decode cX8_takeList 5 = .ok (.iconst 0, 1) := by decide +kernel
theorem dX8_takeList_6 : decode cX8_takeList 6 = .ok (.istore_n 1, 1) := by decide +kernel
theorem dX8_takeList_7 : decode cX8_takeList 7 = .ok (.iload_n 1, 1) := by decide +kernel
theorem dX8_takeList_8 : decode cX8_takeList 8 = .ok (.aload_n 0, 1) := by decide +kernel
theorem dX8_takeList_9 : decode cX8_takeList 9 = .ok (.getfield 143, 3) := by decide +kernel
theorem dX8_takeList_12 : decode cX8_takeList 12 = .ok (.if_icmp .ge 20, 3) := by decide +kernel
theorem dX8_takeList_15 : decode cX8_takeList 15 = .ok (.aload_n 0, 1) := by decide +kernel
theorem dX8_takeList_16 : decode cX8_takeList 16 = .ok (.aload_n 0, 1) := by decide +kernel
theorem dX8_takeList_17 : decode cX8_takeList 17 = .ok (.getfield 23, 3) := by decide +kernel
theorem dX8_takeList_20 : decode cX8_takeList 20 = .ok (.iload_n 1, 1) := by decide +kernel
theorem dX8_takeList_21 : decode cX8_takeList 21 = .ok (.laload, 1) := by decide +kernel
theorem dX8_takeList_22 : decode cX8_takeList 22 = .ok (.invokevirtual 136, 3) := by decide +kernel
theorem dX8_takeList_25 : decode cX8_takeList 25 = .ok (.istore_n 2, 1) := by decide +kernel
theorem dX8_takeList_26 : decode cX8_takeList 26 = .ok (.iinc 1 1, 3) := by decide +kernel
theorem dX8_takeList_29 : decode cX8_takeList 29 = .ok (.goto (-22), 3) := by decide +kernel
theorem dX8_takeList_32 : decode cX8_takeList 32 = .ok (.return_, 1) := by decide +kernel
set_option maxRecDepth 20000 in
theorem ggX8_spans_X8_throwing : GoodIn wsX8_spans wsX8_throwing := goodIn_r _ [5, 6, 23, 24, 25, 26, 27, 28, 29, 30, 31, 32, 33, 34, 35, 36, 37, 38, 39, 40, 41, 42] (by decide +kernel) (by decide +kernel)
set_option maxRecDepth 20000 in
theorem gX8_spans_X8_throwing : GoodIn wsX8_spans (wsV RX8 78 RX8 yX8_throwing wsX8_throwing) := goodIn_app (goodIn_of _ (by decide +kernel)) ggX8_spans_X8_throwing
set_option maxRecDepth 20000 in
theorem ggX8_spans_X8_takeList : GoodIn wsX8_spans wsX8_takeList := goodIn_r _ [10, 11, 12, 13, 14, 15, 16, 4, 17, 18, 19, 20, 21, 22, 23, 24, 25, 26, 27, 28, 29, 30, 31, 32, 33, 34, 35, 36, 37, 38, 39, 40, 41, 42] (by decide +kernel) (by decide +kernel)
set_option maxRecDepth 20000 in
theorem gX8_spans_X8_takeList : GoodIn wsX8_spans (wsV RX8 146 RX8 yX8_takeList wsX8_takeList) := goodIn_app (goodIn_of _ (by decide +kernel)) ggX8_spans_X8_takeList
set_option maxRecDepth 20000 in
theorem ggX8_spans_X8_rest : GoodIn wsX8_spans wsX8_rest := goodIn_r _ [22, 11, 18, 23, 24, 25, 26, 27, 28, 29, 30, 31, 32, 33, 34, 35, 36, 37, 38, 39, 40, 41, 42] (by decide +kernel) (by decide +kernel)
set_option maxRecDepth 20000 in
theorem gX8_spans_X8_rest : GoodIn wsX8_spans (wsV RX8 133 RX8 yX8_rest wsX8_rest) := goodIn_app (goodIn_of _ (by decide +kernel)) ggX8_spans_X8_rest
theorem dX8_spans_0 : decode cX8_spans 0 = .ok (.aload_n 0, 1) := by decide +kernel
theorem dX8_spans_1 : decode cX8_spans 1 = .ok (.lload_n 1, 1) := by decide +kernel
theorem dX8_spans_2 : decode cX8_spans 2 = .ok (.bipush 40, 2) := by decide +kernel
theorem dX8_spans_4 : decode cX8_spans 4 = .ok (.lushr, 1) := by decide +kernel
theorem dX8_spans_5 : decode cX8_spans 5 = .ok (.lconst 0, 1) := by decide +kernel
theorem dX8_spans_6 : decode cX8_spans 6 = .ok (.lcmp, 1) := by decide +kernel
theorem dX8_spans_7 : decode cX8_spans 7 = .ok (.ifCond .eq 7, 3) := by decide +kernel
theorem dX8_spans_10 : decode cX8_spans 10 = .ok (.iconst 1, 1) := by decide +kernel
theorem dX8_spans_11 : decode cX8_spans 11 = .ok (.goto 4, 3) := by decide +kernel
theorem dX8_spans_14 : decode cX8_spans 14 = .ok (.iconst 0, 1) := by decide +kernel
theorem dX8_spans_15 : decode cX8_spans 15 = .ok (.iconst 0, 1) := by decide +kernel
theorem dX8_spans_16 : decode cX8_spans 16 = .ok (.invokevirtual 78, 3) := by decide +kernel
theorem dX8_spans_19 : decode cX8_spans 19 = .ok (.ifCond .eq 5, 3) := by decide +kernel
theorem dX8_spans_22 : decode cX8_spans 22 = .ok (.iconst 0, 1) := by decide +kernel
theorem dX8_spans_23 : decode cX8_spans 23 = .ok (.ireturn, 1) := by decide +kernel
theorem dX8_spans_24 : decode cX8_spans 24 = .ok (.aload_n 0, 1) := by decide +kernel
theorem dX8_spans_25 : decode cX8_spans 25 = .ok (.invokevirtual 146, 3) := by decide +kernel
theorem dX8_spans_28 : decode cX8_spans 28 = .ok (.aload_n 0, 1) := by decide +kernel
theorem dX8_spans_29 : decode cX8_spans 29 = .ok (.lload_n 1, 1) := by decide +kernel
theorem dX8_spans_30 : decode cX8_spans 30 = .ok (.invokevirtual 133, 3) := by decide +kernel
theorem dX8_spans_33 : decode cX8_spans 33 = .ok (.lconst 0, 1) := by decide +kernel
theorem dX8_spans_34 : decode cX8_spans 34 = .ok (.lcmp, 1) := by decide +kernel
theorem dX8_spans_35 : decode cX8_spans 35 = .ok (.ifCond .ne 7, 3) := by decide +kernel
theorem dX8_spans_38 : decode cX8_spans 38 = .ok (.iconst 1, 1) := by decide +kernel
theorem dX8_spans_39 : decode cX8_spans 39 = .ok (.goto 4, 3) := by decide +kernel
theorem dX8_spans_42 : decode cX8_spans 42 = .ok (.iconst 0, 1) := by decide +kernel
theorem dX8_spans_43 : decode cX8_spans 43 = .ok (.ireturn, 1) := by decide +kernel
set_option maxRecDepth 20000 in
theorem ggX8_alone_X8_groups : GoodIn wsX8_alone wsX8_groups := goodIn_r _ [7, 2, 1, 8, 9, 10, 6, 11, 12, 13, 14, 15, 16, 17, 18, 19, 20, 21, 22, 23, 24, 25, 26, 27, 28, 29, 30, 31, 32, 33, 34, 35, 36, 37, 38, 39, 40, 41, 42] (by decide +kernel) (by decide +kernel)
set_option maxRecDepth 20000 in
theorem gX8_alone_X8_groups : GoodIn wsX8_alone (wsV RX8 74 RX8 yX8_groups wsX8_groups) := goodIn_app (goodIn_of _ (by decide +kernel)) ggX8_alone_X8_groups
set_option maxRecDepth 20000 in
theorem ggX8_alone_X8_beginGroups : GoodIn wsX8_alone wsX8_beginGroups := goodIn_r _ [11, 12, 13, 14, 23, 24, 25, 26, 27, 28, 29, 30, 31, 32, 33, 34, 35, 36, 37, 38, 39, 40, 41, 42] (by decide +kernel) (by decide +kernel)
set_option maxRecDepth 20000 in
theorem gX8_alone_X8_beginGroups : GoodIn wsX8_alone (wsV RX8 67 RX8 yX8_beginGroups wsX8_beginGroups) := goodIn_app (goodIn_of _ (by decide +kernel)) ggX8_alone_X8_beginGroups
set_option maxRecDepth 20000 in
theorem ggX8_alone_X8_joins : GoodIn wsX8_alone wsX8_joins := goodIn_r _ [18, 19, 20, 13, 21, 12, 14, 22, 2, 23, 24, 25, 26, 27, 28, 29, 30, 31, 32, 33, 34, 35, 36, 37, 38, 39, 40, 41, 42] (by decide +kernel) (by decide +kernel)
set_option maxRecDepth 20000 in
theorem gX8_alone_X8_joins : GoodIn wsX8_alone (wsV RX8 70 RX8 yX8_joins wsX8_joins) := goodIn_app (goodIn_of _ (by decide +kernel)) ggX8_alone_X8_joins
theorem dX8_alone_0 : decode cX8_alone 0 = .ok (.iconst 0, 1) := by decide +kernel
theorem dX8_alone_1 : decode cX8_alone 1 = .ok (.istore_n 1, 1) := by decide +kernel
theorem dX8_alone_2 : decode cX8_alone 2 = .ok (.aload_n 0, 1) := by decide +kernel
theorem dX8_alone_3 : decode cX8_alone 3 = .ok (.invokevirtual 74, 3) := by decide +kernel
theorem dX8_alone_6 : decode cX8_alone 6 = .ok (.istore_n 2, 1) := by decide +kernel
theorem dX8_alone_7 : decode cX8_alone 7 = .ok (.iconst 0, 1) := by decide +kernel
theorem dX8_alone_8 : decode cX8_alone 8 = .ok (.istore_n 3, 1) := by decide +kernel
theorem dX8_alone_9 : decode cX8_alone 9 = .ok (.iload_n 3, 1) := by decide +kernel
theorem dX8_alone_10 : decode cX8_alone 10 = .ok (.aload_n 0, 1) := by decide +kernel
theorem dX8_alone_11 : decode cX8_alone 11 = .ok (.getfield 61, 3) := by decide +kernel
theorem dX8_alone_14 : decode cX8_alone 14 = .ok (.if_icmp .ge 76, 3) := by decide +kernel
theorem dX8_alone_17 : decode cX8_alone 17 = .ok (.aload_n 0, 1) := by decide +kernel
theorem dX8_alone_18 : decode cX8_alone 18 = .ok (.invokevirtual 67, 3) := by decide +kernel
theorem dX8_alone_21 : decode cX8_alone 21 = .ok (.aload_n 0, 1) := by decide +kernel
theorem dX8_alone_22 : decode cX8_alone 22 = .ok (.getfield 7, 3) := by decide +kernel
theorem dX8_alone_25 : decode cX8_alone 25 = .ok (.istore 4, 2) := by decide +kernel
theorem dX8_alone_27 : decode cX8_alone 27 = .ok (.iconst 0, 1) := by decide +kernel
theorem dX8_alone_28 : decode cX8_alone 28 = .ok (.istore 5, 2) := by decide +kernel
theorem dX8_alone_30 : decode cX8_alone 30 = .ok (.iload 5, 2) := by decide +kernel
theorem dX8_alone_32 : decode cX8_alone 32 = .ok (.aload_n 0, 1) := by decide +kernel
theorem dX8_alone_33 : decode cX8_alone 33 = .ok (.getfield 61, 3) := by decide +kernel
theorem dX8_alone_36 : decode cX8_alone 36 = .ok (.if_icmp .ge 34, 3) := by decide +kernel
theorem dX8_alone_39 : decode cX8_alone 39 = .ok (.iload 5, 2) := by decide +kernel
theorem dX8_alone_41 : decode cX8_alone 41 = .ok (.iload_n 3, 1) := by decide +kernel
theorem dX8_alone_42 : decode cX8_alone 42 = .ok (.if_icmp .eq 22, 3) := by decide +kernel
theorem dX8_alone_45 : decode cX8_alone 45 = .ok (.iload 4, 2) := by decide +kernel
theorem dX8_alone_47 : decode cX8_alone 47 = .ok (.aload_n 0, 1) := by decide +kernel
theorem dX8_alone_48 : decode cX8_alone 48 = .ok (.iload 5, 2) := by decide +kernel
theorem dX8_alone_50 : decode cX8_alone 50 = .ok (.invokevirtual 70, 3) := by decide +kernel
theorem dX8_alone_53 : decode cX8_alone 53 = .ok (.ifCond .eq 7, 3) := by decide +kernel
theorem dX8_alone_56 : decode cX8_alone 56 = .ok (.iconst 1, 1) := by decide +kernel
theorem dX8_alone_57 : decode cX8_alone 57 = .ok (.goto 4, 3) := by decide +kernel
theorem dX8_alone_60 : decode cX8_alone 60 = .ok (.iconst 0, 1) := by decide +kernel
theorem dX8_alone_61 : decode cX8_alone 61 = .ok (.isub, 1) := by decide +kernel
theorem dX8_alone_62 : decode cX8_alone 62 = .ok (.istore 4, 2) := by decide +kernel
theorem dX8_alone_64 : decode cX8_alone 64 = .ok (.iinc 5 1, 3) := by decide +kernel
theorem dX8_alone_67 : decode cX8_alone 67 = .ok (.goto (-37), 3) := by decide +kernel
theorem dX8_alone_70 : decode cX8_alone 70 = .ok (.iload_n 1, 1) := by decide +kernel
theorem dX8_alone_71 : decode cX8_alone 71 = .ok (.iload 4, 2) := by decide +kernel
theorem dX8_alone_73 : decode cX8_alone 73 = .ok (.iload_n 2, 1) := by decide +kernel
theorem dX8_alone_74 : decode cX8_alone 74 = .ok (.if_icmp .le 7, 3) := by decide +kernel
theorem dX8_alone_77 : decode cX8_alone 77 = .ok (.iconst 1, 1) := by decide +kernel
theorem dX8_alone_78 : decode cX8_alone 78 = .ok (.goto 4, 3) := by decide +kernel
theorem dX8_alone_81 : decode cX8_alone 81 = .ok (.iconst 0, 1) := by decide +kernel
theorem dX8_alone_82 : decode cX8_alone 82 = .ok (.iadd, 1) := by decide +kernel
theorem dX8_alone_83 : decode cX8_alone 83 = .ok (.istore_n 1, 1) := by decide +kernel
theorem dX8_alone_84 : decode cX8_alone 84 = .ok (.iinc 3 1, 3) := by decide +kernel
theorem dX8_alone_87 : decode cX8_alone 87 = .ok (.goto (-78), 3) := by decide +kernel
theorem dX8_alone_90 : decode cX8_alone 90 = .ok (.iload_n 1, 1) := by decide +kernel
theorem dX8_alone_91 : decode cX8_alone 91 = .ok (.ireturn, 1) := by decide +kernel
set_option maxRecDepth 20000 in
theorem ggX8_areEven_X8_groups : GoodIn wsX8_areEven wsX8_groups := goodIn_r _ [8, 9, 2, 10, 11, 12, 7, 13, 1, 14, 15, 16, 17, 18, 19, 20, 21, 3, 22, 23, 24, 25, 26, 27, 28, 29, 30, 31, 32, 33, 34, 35, 36, 37, 38, 39, 40, 41, 42] (by decide +kernel) (by decide +kernel)
set_option maxRecDepth 20000 in
theorem gX8_areEven_X8_groups : GoodIn wsX8_areEven (wsV RX8 74 RX8 yX8_groups wsX8_groups) := goodIn_app (goodIn_of _ (by decide +kernel)) ggX8_areEven_X8_groups
theorem dX8_areEven_0 : decode cX8_areEven 0 = .ok (.aload_n 0, 1) := by decide +kernel
theorem dX8_areEven_1 : decode cX8_areEven 1 = .ok (.invokevirtual 74, 3) := by decide +kernel
theorem dX8_areEven_4 : decode cX8_areEven 4 = .ok (.istore_n 1, 1) := by decide +kernel
theorem dX8_areEven_5 : decode cX8_areEven 5 = .ok (.iload_n 1, 1) := by decide +kernel
theorem dX8_areEven_6 : decode cX8_areEven 6 = .ok (.ifCond .le 7, 3) := by decide +kernel
theorem dX8_areEven_9 : decode cX8_areEven 9 = .ok (.iconst 1, 1) := by decide +kernel
theorem dX8_areEven_10 : decode cX8_areEven 10 = .ok (.goto 4, 3) := by decide +kernel
theorem dX8_areEven_13 : decode cX8_areEven 13 = .ok (.iconst 0, 1) := by decide +kernel
theorem dX8_areEven_14 : decode cX8_areEven 14 = .ok (.istore_n 2, 1) := by decide +kernel
theorem dX8_areEven_15 : decode cX8_areEven 15 = .ok (.iconst 0, 1) := by decide +kernel
theorem dX8_areEven_16 : decode cX8_areEven 16 = .ok (.istore_n 3, 1) := by decide +kernel
theorem dX8_areEven_17 : decode cX8_areEven 17 = .ok (.iload_n 3, 1) := by decide +kernel
theorem dX8_areEven_18 : decode cX8_areEven 18 = .ok (.aload_n 0, 1) := by decide +kernel
theorem dX8_areEven_19 : decode cX8_areEven 19 = .ok (.getfield 64, 3) := by decide +kernel
theorem dX8_areEven_22 : decode cX8_areEven 22 = .ok (.if_icmp .ge 64, 3) := by decide +kernel
theorem dX8_areEven_25 : decode cX8_areEven 25 = .ok (.iconst 0, 1) := by decide +kernel
theorem dX8_areEven_26 : decode cX8_areEven 26 = .ok (.istore 4, 2) := by decide +kernel
theorem dX8_areEven_28 : decode cX8_areEven 28 = .ok (.iconst 0, 1) := by decide +kernel
theorem dX8_areEven_29 : decode cX8_areEven 29 = .ok (.istore 5, 2) := by decide +kernel
theorem dX8_areEven_31 : decode cX8_areEven 31 = .ok (.iload 5, 2) := by decide +kernel
theorem dX8_areEven_33 : decode cX8_areEven 33 = .ok (.aload_n 0, 1) := by decide +kernel
theorem dX8_areEven_34 : decode cX8_areEven 34 = .ok (.getfield 61, 3) := by decide +kernel
theorem dX8_areEven_37 : decode cX8_areEven 37 = .ok (.if_icmp .ge 26, 3) := by decide +kernel
theorem dX8_areEven_40 : decode cX8_areEven 40 = .ok (.iload 4, 2) := by decide +kernel
theorem dX8_areEven_42 : decode cX8_areEven 42 = .ok (.aload_n 0, 1) := by decide +kernel
theorem dX8_areEven_43 : decode cX8_areEven 43 = .ok (.getfield 33, 3) := by decide +kernel
theorem dX8_areEven_46 : decode cX8_areEven 46 = .ok (.iload_n 3, 1) := by decide +kernel
theorem dX8_areEven_47 : decode cX8_areEven 47 = .ok (.laload, 1) := by decide +kernel
theorem dX8_areEven_48 : decode cX8_areEven 48 = .ok (.iload 5, 2) := by decide +kernel
theorem dX8_areEven_50 : decode cX8_areEven 50 = .ok (.lshr, 1) := by decide +kernel
theorem dX8_areEven_51 : decode cX8_areEven 51 = .ok (.lconst 1, 1) := by decide +kernel
theorem dX8_areEven_52 : decode cX8_areEven 52 = .ok (.land, 1) := by decide +kernel
theorem dX8_areEven_53 : decode cX8_areEven 53 = .ok (.l2i, 1) := by decide +kernel
theorem dX8_areEven_54 : decode cX8_areEven 54 = .ok (.iadd, 1) := by decide +kernel
theorem dX8_areEven_55 : decode cX8_areEven 55 = .ok (.istore 4, 2) := by decide +kernel
theorem dX8_areEven_57 : decode cX8_areEven 57 = .ok (.iinc 5 1, 3) := by decide +kernel
theorem dX8_areEven_60 : decode cX8_areEven 60 = .ok (.goto (-29), 3) := by decide +kernel
theorem dX8_areEven_63 : decode cX8_areEven 63 = .ok (.iload_n 2, 1) := by decide +kernel
theorem dX8_areEven_64 : decode cX8_areEven 64 = .ok (.ifCond .eq 14, 3) := by decide +kernel
theorem dX8_areEven_67 : decode cX8_areEven 67 = .ok (.iload 4, 2) := by decide +kernel
theorem dX8_areEven_69 : decode cX8_areEven 69 = .ok (.iconst 2, 1) := by decide +kernel
theorem dX8_areEven_70 : decode cX8_areEven 70 = .ok (.irem, 1) := by decide +kernel
theorem dX8_areEven_71 : decode cX8_areEven 71 = .ok (.ifCond .ne 7, 3) := by decide +kernel
theorem dX8_areEven_74 : decode cX8_areEven 74 = .ok (.iconst 1, 1) := by decide +kernel
theorem dX8_areEven_75 : decode cX8_areEven 75 = .ok (.goto 4, 3) := by decide +kernel
theorem dX8_areEven_78 : decode cX8_areEven 78 = .ok (.iconst 0, 1) := by decide +kernel
theorem dX8_areEven_79 : decode cX8_areEven 79 = .ok (.istore_n 2, 1) := by decide +kernel
theorem dX8_areEven_80 : decode cX8_areEven 80 = .ok (.iinc 3 1, 3) := by decide +kernel
theorem dX8_areEven_83 : decode cX8_areEven 83 = .ok (.goto (-66), 3) := by decide +kernel
theorem dX8_areEven_86 : decode cX8_areEven 86 = .ok (.iload_n 2, 1) := by decide +kernel
theorem dX8_areEven_87 : decode cX8_areEven 87 = .ok (.ireturn, 1) := by decide +kernel
set_option maxRecDepth 20000 in
theorem ggX8_parting_X8_groups : GoodIn wsX8_parting wsX8_groups := goodIn_r _ [9, 1, 2, 10, 11, 12, 8, 13, 14, 15, 16, 17, 18, 19, 20, 3, 4, 21, 22, 23, 24, 25, 26, 27, 28, 29, 30, 31, 32, 33, 34, 35, 36, 37, 38, 39, 40, 41, 42] (by decide +kernel) (by decide +kernel)
set_option maxRecDepth 20000 in
theorem gX8_parting_X8_groups : GoodIn wsX8_parting (wsV RX8 74 RX8 yX8_groups wsX8_groups) := goodIn_app (goodIn_of _ (by decide +kernel)) ggX8_parting_X8_groups
set_option maxRecDepth 20000 in
theorem ggX8_parting_X8_beginGroups : GoodIn wsX8_parting wsX8_beginGroups := goodIn_r _ [13, 14, 15, 16, 23, 24, 25, 26, 27, 28, 29, 30, 31, 32, 33, 34, 35, 36, 37, 38, 39, 40, 41, 42] (by decide +kernel) (by decide +kernel)
set_option maxRecDepth 20000 in
theorem gX8_parting_X8_beginGroups : GoodIn wsX8_parting (wsV RX8 67 RX8 yX8_beginGroups wsX8_beginGroups) := goodIn_app (goodIn_of _ (by decide +kernel)) ggX8_parting_X8_beginGroups
set_option maxRecDepth 20000 in
theorem ggX8_parting_X8_joins : GoodIn wsX8_parting wsX8_joins := goodIn_r _ [20, 3, 4, 15, 21, 14, 16, 22, 1, 23, 24, 25, 26, 27, 28, 29, 30, 31, 32, 33, 34, 35, 36, 37, 38, 39, 40, 41, 42] (by decide +kernel) (by decide +kernel)
set_option maxRecDepth 20000 in
theorem gX8_parting_X8_joins : GoodIn wsX8_parting (wsV RX8 70 RX8 yX8_joins wsX8_joins) := goodIn_app (goodIn_of _ (by decide +kernel)) ggX8_parting_X8_joins
theorem dX8_parting_0 : decode cX8_parting 0 = .ok (.iconst 0, 1) := by decide +kernel
theorem dX8_parting_1 : decode cX8_parting 1 = .ok (.istore_n 1, 1) := by decide +kernel
theorem dX8_parting_2 : decode cX8_parting 2 = .ok (.aload_n 0, 1) := by decide +kernel
theorem dX8_parting_3 : decode cX8_parting 3 = .ok (.invokevirtual 74, 3) := by decide +kernel
theorem dX8_parting_6 : decode cX8_parting 6 = .ok (.istore_n 2, 1) := by decide +kernel
theorem dX8_parting_7 : decode cX8_parting 7 = .ok (.iconst 0, 1) := by decide +kernel
theorem dX8_parting_8 : decode cX8_parting 8 = .ok (.istore_n 3, 1) := by decide +kernel
theorem dX8_parting_9 : decode cX8_parting 9 = .ok (.iload_n 3, 1) := by decide +kernel
theorem dX8_parting_10 : decode cX8_parting 10 = .ok (.aload_n 0, 1) := by decide +kernel
theorem dX8_parting_11 : decode cX8_parting 11 = .ok (.getfield 7, 3) := by decide +kernel
theorem dX8_parting_14 : decode cX8_parting 14 = .ok (.if_icmp .ge 94, 3) := by decide +kernel
theorem dX8_parting_17 : decode cX8_parting 17 = .ok (.aload_n 0, 1) := by decide +kernel
theorem dX8_parting_18 : decode cX8_parting 18 = .ok (.invokevirtual 67, 3) := by decide +kernel
theorem dX8_parting_21 : decode cX8_parting 21 = .ok (.aload_n 0, 1) := by decide +kernel
theorem dX8_parting_22 : decode cX8_parting 22 = .ok (.getfield 7, 3) := by decide +kernel
theorem dX8_parting_25 : decode cX8_parting 25 = .ok (.iconst 1, 1) := by decide +kernel
theorem dX8_parting_26 : decode cX8_parting 26 = .ok (.isub, 1) := by decide +kernel
theorem dX8_parting_27 : decode cX8_parting 27 = .ok (.istore 4, 2) := by decide +kernel
theorem dX8_parting_29 : decode cX8_parting 29 = .ok (.iconst 0, 1) := by decide +kernel
theorem dX8_parting_30 : decode cX8_parting 30 = .ok (.istore 5, 2) := by decide +kernel
theorem dX8_parting_32 : decode cX8_parting 32 = .ok (.iload 5, 2) := by decide +kernel
theorem dX8_parting_34 : decode cX8_parting 34 = .ok (.aload_n 0, 1) := by decide +kernel
theorem dX8_parting_35 : decode cX8_parting 35 = .ok (.getfield 61, 3) := by decide +kernel
theorem dX8_parting_38 : decode cX8_parting 38 = .ok (.if_icmp .ge 50, 3) := by decide +kernel
theorem dX8_parting_41 : decode cX8_parting 41 = .ok (.aload_n 0, 1) := by decide +kernel
theorem dX8_parting_42 : decode cX8_parting 42 = .ok (.getfield 13, 3) := by decide +kernel
theorem dX8_parting_45 : decode cX8_parting 45 = .ok (.iload 5, 2) := by decide +kernel
theorem dX8_parting_47 : decode cX8_parting 47 = .ok (.iaload, 1) := by decide +kernel
theorem dX8_parting_48 : decode cX8_parting 48 = .ok (.iload_n 3, 1) := by decide +kernel
theorem dX8_parting_49 : decode cX8_parting 49 = .ok (.if_icmp .eq 33, 3) := by decide +kernel
theorem dX8_parting_52 : decode cX8_parting 52 = .ok (.aload_n 0, 1) := by decide +kernel
theorem dX8_parting_53 : decode cX8_parting 53 = .ok (.getfield 17, 3) := by decide +kernel
theorem dX8_parting_56 : decode cX8_parting 56 = .ok (.iload 5, 2) := by decide +kernel
theorem dX8_parting_58 : decode cX8_parting 58 = .ok (.iaload, 1) := by decide +kernel
theorem dX8_parting_59 : decode cX8_parting 59 = .ok (.iload_n 3, 1) := by decide +kernel
theorem dX8_parting_60 : decode cX8_parting 60 = .ok (.if_icmp .eq 22, 3) := by decide +kernel
theorem dX8_parting_63 : decode cX8_parting 63 = .ok (.iload 4, 2) := by decide +kernel
theorem dX8_parting_65 : decode cX8_parting 65 = .ok (.aload_n 0, 1) := by decide +kernel
theorem dX8_parting_66 : decode cX8_parting 66 = .ok (.iload 5, 2) := by decide +kernel
theorem dX8_parting_68 : decode cX8_parting 68 = .ok (.invokevirtual 70, 3) := by decide +kernel
theorem dX8_parting_71 : decode cX8_parting 71 = .ok (.ifCond .eq 7, 3) := by decide +kernel
theorem dX8_parting_74 : decode cX8_parting 74 = .ok (.iconst 1, 1) := by decide +kernel
theorem dX8_parting_75 : decode cX8_parting 75 = .ok (.goto 4, 3) := by decide +kernel
theorem dX8_parting_78 : decode cX8_parting 78 = .ok (.iconst 0, 1) := by decide +kernel
theorem dX8_parting_79 : decode cX8_parting 79 = .ok (.isub, 1) := by decide +kernel
theorem dX8_parting_80 : decode cX8_parting 80 = .ok (.istore 4, 2) := by decide +kernel
theorem dX8_parting_82 : decode cX8_parting 82 = .ok (.iinc 5 1, 3) := by decide +kernel
theorem dX8_parting_85 : decode cX8_parting 85 = .ok (.goto (-53), 3) := by decide +kernel
theorem dX8_parting_88 : decode cX8_parting 88 = .ok (.iload_n 1, 1) := by decide +kernel
theorem dX8_parting_89 : decode cX8_parting 89 = .ok (.iload 4, 2) := by decide +kernel
theorem dX8_parting_91 : decode cX8_parting 91 = .ok (.iload_n 2, 1) := by decide +kernel
theorem dX8_parting_92 : decode cX8_parting 92 = .ok (.if_icmp .le 7, 3) := by decide +kernel
theorem dX8_parting_95 : decode cX8_parting 95 = .ok (.iconst 1, 1) := by decide +kernel
theorem dX8_parting_96 : decode cX8_parting 96 = .ok (.goto 4, 3) := by decide +kernel
theorem dX8_parting_99 : decode cX8_parting 99 = .ok (.iconst 0, 1) := by decide +kernel
theorem dX8_parting_100 : decode cX8_parting 100 = .ok (.iadd, 1) := by decide +kernel
theorem dX8_parting_101 : decode cX8_parting 101 = .ok (.istore_n 1, 1) := by decide +kernel
theorem dX8_parting_102 : decode cX8_parting 102 = .ok (.iinc 3 1, 3) := by decide +kernel
theorem dX8_parting_105 : decode cX8_parting 105 = .ok (.goto (-96), 3) := by decide +kernel
theorem dX8_parting_108 : decode cX8_parting 108 = .ok (.iload_n 1, 1) := by decide +kernel
theorem dX8_parting_109 : decode cX8_parting 109 = .ok (.ireturn, 1) := by decide +kernel
set_option maxRecDepth 20000 in
theorem ggX8_rank_X8_takeList : GoodIn wsX8_rank wsX8_takeList := goodIn_r _ [6, 1, 7, 8, 9, 10, 11, 5, 12, 13, 14, 15, 16, 17, 18, 19, 20, 21, 22, 23, 24, 25, 26, 27, 28, 29, 30, 31, 32, 33, 34, 35, 36, 37] (by decide +kernel) (by decide +kernel)
set_option maxRecDepth 20000 in
theorem gX8_rank_X8_takeList : GoodIn wsX8_rank (wsV RX8 146 RX8 yX8_takeList wsX8_takeList) := goodIn_app (goodIn_of _ (by decide +kernel)) ggX8_rank_X8_takeList
theorem dX8_rank_0 : decode cX8_rank 0 = .ok (.aload_n 0, 1) := by decide +kernel
theorem dX8_rank_1 : decode cX8_rank 1 = .ok (.invokevirtual 146, 3) := by decide +kernel
theorem dX8_rank_4 : decode cX8_rank 4 = .ok (.aload_n 0, 1) := by decide +kernel
theorem dX8_rank_5 : decode cX8_rank 5 = .ok (.getfield 130, 3) := by decide +kernel
theorem dX8_rank_8 : decode cX8_rank 8 = .ok (.ireturn, 1) := by decide +kernel
set_option maxRecDepth 20000 in
theorem ggX8_look_X8_throwing : GoodIn wsX8_look wsX8_throwing := goodIn_r _ [8, 9, 64, 65, 66, 67, 68, 69, 70, 71, 72, 73, 74, 75, 76, 77, 78, 79, 80, 81, 82, 83] (by decide +kernel) (by decide +kernel)
set_option maxRecDepth 20000 in
theorem gX8_look_X8_throwing : GoodIn wsX8_look (wsV RX8 78 RX8 yX8_throwing wsX8_throwing) := goodIn_app (goodIn_of _ (by decide +kernel)) ggX8_look_X8_throwing
set_option maxRecDepth 20000 in
theorem ggX8_look_X8_groups : GoodIn wsX8_look wsX8_groups := goodIn_r _ [13, 1, 2, 14, 15, 16, 7, 17, 18, 19, 20, 21, 22, 23, 24, 25, 26, 27, 28, 64, 65, 66, 67, 68, 69, 70, 71, 72, 73, 74, 75, 76, 77, 78, 79, 80, 81, 82, 83] (by decide +kernel) (by decide +kernel)
set_option maxRecDepth 20000 in
theorem gX8_look_X8_groups : GoodIn wsX8_look (wsV RX8 74 RX8 yX8_groups wsX8_groups) := goodIn_app (goodIn_of _ (by decide +kernel)) ggX8_look_X8_groups
set_option maxRecDepth 20000 in
theorem ggX8_look_X8_dimension : GoodIn wsX8_look wsX8_dimension := goodIn_r _ [32, 2, 1, 10, 11, 12, 7, 13, 14, 15, 16, 17, 18, 19, 20, 21, 22, 23, 24, 25, 26, 27, 28, 64, 65, 66, 67, 68, 69, 70, 71, 72, 73, 74, 75, 76, 77, 78, 79, 80, 81, 82, 83] (by decide +kernel) (by decide +kernel)
set_option maxRecDepth 20000 in
theorem gX8_look_X8_dimension : GoodIn wsX8_look (wsV RX8 86 RX8 yX8_dimension wsX8_dimension) := goodIn_app (goodIn_of _ (by decide +kernel)) ggX8_look_X8_dimension
set_option maxRecDepth 20000 in
theorem ggX8_look_X8_alone : GoodIn wsX8_look wsX8_alone := goodIn_r _ [36, 2, 1, 10, 11, 12, 7, 13, 14, 15, 16, 17, 18, 19, 20, 21, 22, 23, 24, 25, 26, 27, 28, 64, 65, 66, 67, 68, 69, 70, 71, 72, 73, 74, 75, 76, 77, 78, 79, 80, 81, 82, 83] (by decide +kernel) (by decide +kernel)
set_option maxRecDepth 20000 in
theorem gX8_look_X8_alone : GoodIn wsX8_look (wsV RX8 149 RX8 yX8_alone wsX8_alone) := goodIn_app (goodIn_of _ (by decide +kernel)) ggX8_look_X8_alone
set_option maxRecDepth 20000 in
theorem ggX8_look_X8_areEven : GoodIn wsX8_look wsX8_areEven := goodIn_r _ [40, 18, 2, 27, 10, 11, 12, 7, 13, 1, 14, 15, 16, 17, 19, 20, 21, 22, 23, 24, 25, 26, 28, 64, 65, 66, 67, 68, 69, 70, 71, 72, 73, 74, 75, 76, 77, 78, 79, 80, 81, 82, 83] (by decide +kernel) (by decide +kernel)
set_option maxRecDepth 20000 in
theorem gX8_look_X8_areEven : GoodIn wsX8_look (wsV RX8 152 RX8 yX8_areEven wsX8_areEven) := goodIn_app (goodIn_of _ (by decide +kernel)) ggX8_look_X8_areEven
set_option maxRecDepth 20000 in
theorem ggX8_look_X8_rank : GoodIn wsX8_look wsX8_rank := goodIn_r _ [44, 45, 46, 47, 48, 7, 49, 3, 50, 51, 52, 53, 54, 55, 56, 57, 58, 59, 64, 65, 66, 67, 68, 69, 70, 71, 72, 73, 74, 75, 76, 77, 78, 79, 80, 81, 82, 83] (by decide +kernel) (by decide +kernel)
set_option maxRecDepth 20000 in
theorem gX8_look_X8_rank : GoodIn wsX8_look (wsV RX8 156 RX8 yX8_rank wsX8_rank) := goodIn_app (goodIn_of _ (by decide +kernel)) ggX8_look_X8_rank
set_option maxRecDepth 20000 in
theorem ggX8_look_X8_parting : GoodIn wsX8_look wsX8_parting := goodIn_r _ [63, 1, 2, 25, 26, 10, 11, 12, 7, 13, 14, 15, 16, 17, 18, 19, 20, 21, 22, 23, 24, 27, 28, 64, 65, 66, 67, 68, 69, 70, 71, 72, 73, 74, 75, 76, 77, 78, 79, 80, 81, 82, 83] (by decide +kernel) (by decide +kernel)

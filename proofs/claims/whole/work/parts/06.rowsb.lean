theorem dX6_init_0 : decode cX6_init 0 = .ok (.aload_n 0, 1) := by decide +kernel
theorem dX6_init_1 : decode cX6_init 1 = .ok (.invokespecial 3, 3) := by decide +kernel
theorem dX6_init_4 : decode cX6_init 4 = .ok (.aload_n 0, 1) := by decide +kernel
theorem dX6_init_5 : decode cX6_init 5 = .ok (.bipush 16, 2) := by decide +kernel
theorem dX6_init_7 : decode cX6_init 7 = .ok (.newarray .long, 2) := by decide +kernel
theorem dX6_init_9 : decode cX6_init 9 = .ok (.putfield 9, 3) := by decide +kernel
theorem dX6_init_12 : decode cX6_init 12 = .ok (.aload_n 0, 1) := by decide +kernel
theorem dX6_init_13 : decode cX6_init 13 = .ok (.bipush 16, 2) := by decide +kernel
theorem dX6_init_15 : decode cX6_init 15 = .ok (.newarray .long, 2) := by decide +kernel
theorem dX6_init_17 : decode cX6_init 17 = .ok (.putfield 15, 3) := by decide +kernel
theorem dX6_init_20 : decode cX6_init 20 = .ok (.return_, 1) := by decide +kernel
set_option maxRecDepth 20000 in
theorem ggX6_seek_X6_shortenAll : GoodIn wsX6_seek wsX6_shortenAll := goodIn_r _ [8, 9, 10, 11, 7, 12, 1, 3, 13, 14, 15, 16, 17, 18, 19] (by decide +kernel) (by decide +kernel)
set_option maxRecDepth 20000 in
theorem gX6_seek_X6_shortenAll : GoodIn wsX6_seek (wsV RX6 26 RX6 yX6_shortenAll wsX6_shortenAll) := goodIn_app (goodIn_of _ (by decide +kernel)) ggX6_seek_X6_shortenAll
theorem dX6_seek_0 : decode cX6_seek 0 = .ok (.iconst 0, 1) := by decide +kernel
theorem dX6_seek_1 : decode cX6_seek 1 = .ok (.istore 4, 2) := by decide +kernel
theorem dX6_seek_3 : decode cX6_seek 3 = .ok (.iload 4, 2) := by decide +kernel
theorem dX6_seek_5 : decode cX6_seek 5 = .ok (.aload_n 1, 1) := by decide +kernel
theorem dX6_seek_6 : decode cX6_seek 6 = .ok (.getfield 18, 3) := by decide +kernel
theorem dX6_seek_9 : decode cX6_seek 9 = .ok (.if_icmp .ge 27, 3) := by decide +kernel
theorem dX6_seek_12 : decode cX6_seek 12 = .ok (.aload_n 0, 1) := by decide +kernel
theorem dX6_seek_13 : decode cX6_seek 13 = .ok (.getfield 9, 3) := by decide +kernel
theorem dX6_seek_16 : decode cX6_seek 16 = .ok (.iload 4, 2) := by decide +kernel
theorem dX6_seek_18 : decode cX6_seek 18 = .ok (.ldc2_w 24, 3) := by decide +kernel
theorem dX6_seek_21 : decode cX6_seek 21 = .ok (.lastore, 1) := by decide +kernel
theorem dX6_seek_22 : decode cX6_seek 22 = .ok (.aload_n 0, 1) := by decide +kernel
theorem dX6_seek_23 : decode cX6_seek 23 = .ok (.getfield 15, 3) := by decide +kernel
theorem dX6_seek_26 : decode cX6_seek 26 = .ok (.iload 4, 2) := by decide +kernel
theorem dX6_seek_28 : decode cX6_seek 28 = .ok (.lconst 0, 1) := by decide +kernel
theorem dX6_seek_29 : decode cX6_seek 29 = .ok (.lastore, 1) := by decide +kernel
theorem dX6_seek_30 : decode cX6_seek 30 = .ok (.iinc 4 1, 3) := by decide +kernel
theorem dX6_seek_33 : decode cX6_seek 33 = .ok (.goto (-30), 3) := by decide +kernel
theorem dX6_seek_36 : decode cX6_seek 36 = .ok (.aload_n 0, 1) := by decide +kernel
theorem dX6_seek_37 : decode cX6_seek 37 = .ok (.getfield 9, 3) := by decide +kernel
theorem dX6_seek_40 : decode cX6_seek 40 = .ok (.iload_n 2, 1) := by decide +kernel
theorem dX6_seek_41 : decode cX6_seek 41 = .ok (.lconst 0, 1) := by decide +kernel
theorem dX6_seek_42 : decode cX6_seek 42 = .ok (.lastore, 1) := by decide +kernel
theorem dX6_seek_43 : decode cX6_seek 43 = .ok (.iconst 1, 1) := by decide +kernel
theorem dX6_seek_44 : decode cX6_seek 44 = .ok (.istore 4, 2) := by decide +kernel
theorem dX6_seek_46 : decode cX6_seek 46 = .ok (.iconst 1, 1) := by decide +kernel
theorem dX6_seek_47 : decode cX6_seek 47 = .ok (.istore 5, 2) := by decide +kernel
theorem dX6_seek_49 : decode cX6_seek 49 = .ok (.iload 5, 2) := by decide +kernel
theorem dX6_seek_51 : decode cX6_seek 51 = .ok (.aload_n 1, 1) := by decide +kernel
theorem dX6_seek_52 : decode cX6_seek 52 = .ok (.getfield 18, 3) := by decide +kernel
theorem dX6_seek_55 : decode cX6_seek 55 = .ok (.if_icmp .ge 22, 3) := by decide +kernel
theorem dX6_seek_58 : decode cX6_seek 58 = .ok (.iload 4, 2) := by decide +kernel
theorem dX6_seek_60 : decode cX6_seek 60 = .ok (.ifCond .eq 17, 3) := by decide +kernel
theorem dX6_seek_63 : decode cX6_seek 63 = .ok (.aload_n 0, 1) := by decide +kernel
theorem dX6_seek_64 : decode cX6_seek 64 = .ok (.aload_n 1, 1) := by decide +kernel
theorem dX6_seek_65 : decode cX6_seek 65 = .ok (.iload_n 3, 1) := by decide +kernel
theorem dX6_seek_66 : decode cX6_seek 66 = .ok (.invokevirtual 26, 3) := by decide +kernel
theorem dX6_seek_69 : decode cX6_seek 69 = .ok (.istore 4, 2) := by decide +kernel
theorem dX6_seek_71 : decode cX6_seek 71 = .ok (.iinc 5 1, 3) := by decide +kernel
theorem dX6_seek_74 : decode cX6_seek 74 = .ok (.goto (-25), 3) := by decide +kernel
theorem dX6_seek_77 : decode cX6_seek 77 = .ok (.return_, 1) := by decide +kernel
theorem dX6_reaches_0 : decode cX6_reaches 0 = .ok (.aload_n 0, 1) := by decide +kernel
theorem dX6_reaches_1 : decode cX6_reaches 1 = .ok (.getfield 9, 3) := by decide +kernel
theorem dX6_reaches_4 : decode cX6_reaches 4 = .ok (.iload_n 1, 1) := by decide +kernel
theorem dX6_reaches_5 : decode cX6_reaches 5 = .ok (.laload, 1) := by decide +kernel
theorem dX6_reaches_6 : decode cX6_reaches 6 = .ok (.ldc2_w 24, 3) := by decide +kernel
theorem dX6_reaches_9 : decode cX6_reaches 9 = .ok (.lcmp, 1) := by decide +kernel
theorem dX6_reaches_10 : decode cX6_reaches 10 = .ok (.ifCond .ge 7, 3) := by decide +kernel
theorem dX6_reaches_13 : decode cX6_reaches 13 = .ok (.iconst 1, 1) := by decide +kernel
theorem dX6_reaches_14 : decode cX6_reaches 14 = .ok (.goto 4, 3) := by decide +kernel
theorem dX6_reaches_17 : decode cX6_reaches 17 = .ok (.iconst 0, 1) := by decide +kernel
theorem dX6_reaches_18 : decode cX6_reaches 18 = .ok (.ireturn, 1) := by decide +kernel
set_option maxRecDepth 20000 in
theorem ggX6_shortenAll_X6_shorten : GoodIn wsX6_shortenAll wsX6_shorten := goodIn_r _ [5, 6, 7, 13, 14] (by decide +kernel) (by decide +kernel)
set_option maxRecDepth 20000 in
theorem gX6_shortenAll_X6_shorten : GoodIn wsX6_shortenAll (wsV RX6 43 RX6 yX6_shorten wsX6_shorten) := goodIn_app (goodIn_of _ (by decide +kernel)) ggX6_shortenAll_X6_shorten
theorem dX6_shortenAll_0 : decode cX6_shortenAll 0 = .ok (.iconst 0, 1) := by decide +kernel
theorem dX6_shortenAll_1 : decode cX6_shortenAll 1 = .ok (.istore_n 3, 1) := by decide +kernel
theorem dX6_shortenAll_2 : decode cX6_shortenAll 2 = .ok (.iconst 0, 1) := by decide +kernel
theorem dX6_shortenAll_3 : decode cX6_shortenAll 3 = .ok (.istore 4, 2) := by decide +kernel
theorem dX6_shortenAll_5 : decode cX6_shortenAll 5 = .ok (.iload 4, 2) := by decide +kernel
theorem dX6_shortenAll_7 : decode cX6_shortenAll 7 = .ok (.aload_n 1, 1) := by decide +kernel
theorem dX6_shortenAll_8 : decode cX6_shortenAll 8 = .ok (.getfield 30, 3) := by decide +kernel
theorem dX6_shortenAll_11 : decode cX6_shortenAll 11 = .ok (.if_icmp .ge 73, 3) := by decide +kernel
theorem dX6_shortenAll_14 : decode cX6_shortenAll 14 = .ok (.iload 4, 2) := by decide +kernel
theorem dX6_shortenAll_16 : decode cX6_shortenAll 16 = .ok (.iload_n 2, 1) := by decide +kernel
theorem dX6_shortenAll_17 : decode cX6_shortenAll 17 = .ok (.if_icmp .eq 61, 3) := by decide +kernel
theorem dX6_shortenAll_20 : decode cX6_shortenAll 20 = .ok (.aload_n 1, 1) := by decide +kernel
theorem dX6_shortenAll_21 : decode cX6_shortenAll 21 = .ok (.getfield 33, 3) := by decide +kernel
theorem dX6_shortenAll_24 : decode cX6_shortenAll 24 = .ok (.iload 4, 2) := by decide +kernel
theorem dX6_shortenAll_26 : decode cX6_shortenAll 26 = .ok (.iaload, 1) := by decide +kernel
theorem dX6_shortenAll_27 : decode cX6_shortenAll 27 = .ok (.istore 5, 2) := by decide +kernel
theorem dX6_shortenAll_29 : decode cX6_shortenAll 29 = .ok (.aload_n 1, 1) := by decide +kernel
theorem dX6_shortenAll_30 : decode cX6_shortenAll 30 = .ok (.getfield 37, 3) := by decide +kernel
theorem dX6_shortenAll_33 : decode cX6_shortenAll 33 = .ok (.iload 4, 2) := by decide +kernel
theorem dX6_shortenAll_35 : decode cX6_shortenAll 35 = .ok (.iaload, 1) := by decide +kernel
theorem dX6_shortenAll_36 : decode cX6_shortenAll 36 = .ok (.istore 6, 2) := by decide +kernel
theorem dX6_shortenAll_38 : decode cX6_shortenAll 38 = .ok (.iload_n 3, 1) := by decide +kernel
theorem dX6_shortenAll_39 : decode cX6_shortenAll 39 = .ok (.aload_n 0, 1) := by decide +kernel
theorem dX6_shortenAll_40 : decode cX6_shortenAll 40 = .ok (.iload 5, 2) := by decide +kernel
theorem dX6_shortenAll_42 : decode cX6_shortenAll 42 = .ok (.iload 6, 2) := by decide +kernel
theorem dX6_shortenAll_44 : decode cX6_shortenAll 44 = .ok (.iload 4, 2) := by decide +kernel
theorem dX6_shortenAll_46 : decode cX6_shortenAll 46 = .ok (.aload_n 1, 1) := by decide +kernel
theorem dX6_shortenAll_47 : decode cX6_shortenAll 47 = .ok (.getfield 40, 3) := by decide +kernel
theorem dX6_shortenAll_50 : decode cX6_shortenAll 50 = .ok (.iload 4, 2) := by decide +kernel
theorem dX6_shortenAll_52 : decode cX6_shortenAll 52 = .ok (.iaload, 1) := by decide +kernel
theorem dX6_shortenAll_53 : decode cX6_shortenAll 53 = .ok (.invokevirtual 43, 3) := by decide +kernel
theorem dX6_shortenAll_56 : decode cX6_shortenAll 56 = .ok (.ior, 1) := by decide +kernel
theorem dX6_shortenAll_57 : decode cX6_shortenAll 57 = .ok (.istore_n 3, 1) := by decide +kernel
theorem dX6_shortenAll_58 : decode cX6_shortenAll 58 = .ok (.iload_n 3, 1) := by decide +kernel
theorem dX6_shortenAll_59 : decode cX6_shortenAll 59 = .ok (.aload_n 0, 1) := by decide +kernel
theorem dX6_shortenAll_60 : decode cX6_shortenAll 60 = .ok (.iload 6, 2) := by decide +kernel
theorem dX6_shortenAll_62 : decode cX6_shortenAll 62 = .ok (.iload 5, 2) := by decide +kernel
theorem dX6_shortenAll_64 : decode cX6_shortenAll 64 = .ok (.iload 4, 2) := by decide +kernel
theorem dX6_shortenAll_66 : decode cX6_shortenAll 66 = .ok (.aload_n 1, 1) := by decide +kernel
theorem dX6_shortenAll_67 : decode cX6_shortenAll 67 = .ok (.getfield 40, 3) := by decide +kernel
theorem dX6_shortenAll_70 : decode cX6_shortenAll 70 = .ok (.iload 4, 2) := by decide +kernel
theorem dX6_shortenAll_72 : decode cX6_shortenAll 72 = .ok (.iaload, 1) := by decide +kernel
theorem dX6_shortenAll_73 : decode cX6_shortenAll 73 = .ok (.invokevirtual 43, 3) := by decide +kernel
theorem dX6_shortenAll_76 : decode cX6_shortenAll 76 = .ok (.ior, 1) := by decide +kernel
theorem dX6_shortenAll_77 : decode cX6_shortenAll 77 = .ok (.istore_n 3, 1) := by decide +kernel
theorem dX6_shortenAll_78 : decode cX6_shortenAll 78 = .ok (.iinc 4 1, 3) := by decide +kernel
theorem dX6_shortenAll_81 : decode cX6_shortenAll 81 = .ok (.goto (-76), 3) := by decide +kernel
theorem dX6_shortenAll_84 : decode cX6_shortenAll 84 = .ok (.iload_n 3, 1) := by decide +kernel
theorem dX6_shortenAll_85 : decode cX6_shortenAll 85 = .ok (.ireturn, 1) := by decide +kernel
theorem dX6_shorten_0 : decode cX6_shorten 0 = .ok (.aload_n 0, 1) := by decide +kernel
theorem dX6_shorten_1 : decode cX6_shorten 1 = .ok (.getfield 9, 3) := by decide +kernel
theorem dX6_shorten_4 : decode cX6_shorten 4 = .ok (.iload_n 1, 1) := by decide +kernel
theorem dX6_shorten_5 : decode cX6_shorten 5 = .ok (.laload, 1) := by decide +kernel
theorem dX6_shorten_6 : decode cX6_shorten 6 = .ok (.iload 4, 2) := by decide +kernel
theorem dX6_shorten_8 : decode cX6_shorten 8 = .ok (.i2l, 1) := by decide +kernel
theorem dX6_shorten_9 : decode cX6_shorten 9 = .ok (.ladd, 1) := by decide +kernel
theorem dX6_shorten_10 : decode cX6_shorten 10 = .ok (.aload_n 0, 1) := by decide +kernel
theorem dX6_shorten_11 : decode cX6_shorten 11 = .ok (.getfield 9, 3) := by decide +kernel
theorem dX6_shorten_14 : decode cX6_shorten 14 = .ok (.iload_n 2, 1) := by decide +kernel
theorem dX6_shorten_15 : decode cX6_shorten 15 = .ok (.laload, 1) := by decide +kernel
theorem dX6_shorten_16 : decode cX6_shorten 16 = .ok (.lcmp, 1) := by decide +kernel
theorem dX6_shorten_17 : decode cX6_shorten 17 = .ok (.ifCond .lt 5, 3) := by decide +kernel
theorem dX6_shorten_20 : decode cX6_shorten 20 = .ok (.iconst 0, 1) := by decide +kernel
theorem dX6_shorten_21 : decode cX6_shorten 21 = .ok (.ireturn, 1) := by decide +kernel
theorem dX6_shorten_22 : decode cX6_shorten 22 = .ok (.aload_n 0, 1) := by decide +kernel
theorem dX6_shorten_23 : decode cX6_shorten 23 = .ok (.getfield 9, 3) := by decide +kernel
theorem dX6_shorten_26 : decode cX6_shorten 26 = .ok (.iload_n 2, 1) := by decide +kernel
theorem dX6_shorten_27 : decode cX6_shorten 27 = .ok (.aload_n 0, 1) := by decide +kernel
theorem dX6_shorten_28 : decode cX6_shorten 28 = .ok (.getfield 9, 3) := by decide +kernel
theorem dX6_shorten_31 : decode cX6_shorten 31 = .ok (.iload_n 1, 1) := by decide +kernel
theorem dX6_shorten_32 : decode cX6_shorten 32 = .ok (.laload, 1) := by decide +kernel
theorem dX6_shorten_33 : decode cX6_shorten 33 = .ok (.iload 4, 2) := by decide +kernel
theorem dX6_shorten_35 : decode cX6_shorten 35 = .ok (.i2l, 1) := by decide +kernel
theorem dX6_shorten_36 : decode cX6_shorten 36 = .ok (.ladd, 1) := by decide +kernel
theorem dX6_shorten_37 : decode cX6_shorten 37 = .ok (.lastore, 1) := by decide +kernel
theorem dX6_shorten_38 : decode cX6_shorten 38 = .ok (.aload_n 0, 1) := by decide +kernel
theorem dX6_shorten_39 : decode cX6_shorten 39 = .ok (.getfield 15, 3) := by decide +kernel
theorem dX6_shorten_42 : decode cX6_shorten 42 = .ok (.iload_n 2, 1) := by decide +kernel
theorem dX6_shorten_43 : decode cX6_shorten 43 = .ok (.aload_n 0, 1) := by decide +kernel
theorem dX6_shorten_44 : decode cX6_shorten 44 = .ok (.getfield 15, 3) := by decide +kernel
theorem dX6_shorten_47 : decode cX6_shorten 47 = .ok (.iload_n 1, 1) := by decide +kernel
theorem dX6_shorten_48 : decode cX6_shorten 48 = .ok (.laload, 1) := by decide +kernel
theorem dX6_shorten_49 : decode cX6_shorten 49 = .ok (.lconst 1, 1) := by decide +kernel
theorem dX6_shorten_50 : decode cX6_shorten 50 = .ok (.iload_n 3, 1) := by decide +kernel
theorem dX6_shorten_51 : decode cX6_shorten 51 = .ok (.lshl, 1) := by decide +kernel
theorem dX6_shorten_52 : decode cX6_shorten 52 = .ok (.lxor, 1) := by decide +kernel
theorem dX6_shorten_53 : decode cX6_shorten 53 = .ok (.lastore, 1) := by decide +kernel
theorem dX6_shorten_54 : decode cX6_shorten 54 = .ok (.iconst 1, 1) := by decide +kernel
theorem dX6_shorten_55 : decode cX6_shorten 55 = .ok (.ireturn, 1) := by decide +kernel
set_option maxRecDepth 20000 in
theorem ggX7_init_X2_init : GoodIn wsX7_init wsX2_init := goodIn_r _ [36, 37, 2, 3, 38, 39, 40, 41, 42, 80, 81, 82, 83, 84] (by decide +kernel) (by decide +kernel)
set_option maxRecDepth 20000 in
theorem gX7_init_X2_init : GoodIn wsX7_init (wsX2_init) := ggX7_init_X2_init
set_option maxRecDepth 20000 in
theorem ggX7_init_X5_init : GoodIn wsX7_init wsX5_init := goodIn_r _ [45, 46, 2, 3, 32, 47, 93, 94, 95] (by decide +kernel) (by decide +kernel)
set_option maxRecDepth 20000 in
theorem gX7_init_X5_init : GoodIn wsX7_init (wsX5_init) := ggX7_init_X5_init
set_option maxRecDepth 20000 in
theorem ggX7_init_X3_init : GoodIn wsX7_init wsX3_init := goodIn_r _ [50, 51, 2, 3, 39, 52, 32, 53, 96, 97, 98, 99] (by decide +kernel) (by decide +kernel)
set_option maxRecDepth 20000 in
theorem gX7_init_X3_init : GoodIn wsX7_init (wsX3_init) := ggX7_init_X3_init
set_option maxRecDepth 20000 in
theorem ggX7_init_X6_init : GoodIn wsX7_init wsX6_init := goodIn_r _ [56, 57, 2, 3, 32, 58, 59, 100, 101] (by decide +kernel) (by decide +kernel)
set_option maxRecDepth 20000 in
theorem gX7_init_X6_init : GoodIn wsX7_init (wsX6_init) := ggX7_init_X6_init
set_option maxRecDepth 20000 in
theorem ggX7_init_X4_init : GoodIn wsX7_init wsX4_init := goodIn_r _ [62, 63, 2, 3, 32, 64, 65, 66, 67, 102, 103, 104, 105, 106, 107] (by decide +kernel) (by decide +kernel)
set_option maxRecDepth 20000 in
theorem gX7_init_X4_init : GoodIn wsX7_init (wsX4_init) := ggX7_init_X4_init
set_option maxRecDepth 20000 in
theorem ggX7_init_X1_init : GoodIn wsX7_init wsX1_init := goodIn_r _ [70, 71, 2, 3, 72, 32, 73, 108] (by decide +kernel) (by decide +kernel)
set_option maxRecDepth 20000 in
theorem gX7_init_X1_init : GoodIn wsX7_init (wsX1_init) := ggX7_init_X1_init
set_option maxRecDepth 20000 in
theorem ggX7_init_X0_init : GoodIn wsX7_init wsX0_init := goodIn_r _ [76, 77, 2, 3, 78, 39, 79, 109] (by decide +kernel) (by decide +kernel)
set_option maxRecDepth 20000 in
theorem gX7_init_X0_init : GoodIn wsX7_init (wsX0_init) := ggX7_init_X0_init
theorem dX7_init_0 : decode cX7_init 0 = .ok (.aload_n 0, 1) := by decide +kernel
theorem dX7_init_1 : decode cX7_init 1 = .ok (.invokespecial 1, 3) := by decide +kernel
theorem dX7_init_4 : decode cX7_init 4 = .ok (.aload_n 0, 1) := by decide +kernel
theorem dX7_init_5 : decode cX7_init 5 = .ok (.new 7, 3) := by decide +kernel
theorem dX7_init_8 : decode cX7_init 8 = .ok (.dup, 1) := by decide +kernel
theorem dX7_init_9 : decode cX7_init 9 = .ok (.invokespecial 9, 3) := by decide +kernel
theorem dX7_init_12 : decode cX7_init 12 = .ok (.putfield 10, 3) := by decide +kernel
theorem dX7_init_15 : decode cX7_init 15 = .ok (.aload_n 0, 1) := by decide +kernel
theorem dX7_init_16 : decode cX7_init 16 = .ok (.new 16, 3) := by decide +kernel
theorem dX7_init_19 : decode cX7_init 19 = .ok (.dup, 1) := by decide +kernel
theorem dX7_init_20 : decode cX7_init 20 = .ok (.invokespecial 18, 3) := by decide +kernel
theorem dX7_init_23 : decode cX7_init 23 = .ok (.putfield 19, 3) := by decide +kernel
theorem dX7_init_26 : decode cX7_init 26 = .ok (.aload_n 0, 1) := by decide +kernel
theorem dX7_init_27 : decode cX7_init 27 = .ok (.new 23, 3) := by decide +kernel
theorem dX7_init_30 : decode cX7_init 30 = .ok (.dup, 1) := by decide +kernel
theorem dX7_init_31 : decode cX7_init 31 = .ok (.invokespecial 25, 3) := by decide +kernel
theorem dX7_init_34 : decode cX7_init 34 = .ok (.putfield 26, 3) := by decide +kernel
theorem dX7_init_37 : decode cX7_init 37 = .ok (.aload_n 0, 1) := by decide +kernel
theorem dX7_init_38 : decode cX7_init 38 = .ok (.new 30, 3) := by decide +kernel
theorem dX7_init_41 : decode cX7_init 41 = .ok (.dup, 1) := by decide +kernel
theorem dX7_init_42 : decode cX7_init 42 = .ok (.invokespecial 32, 3) := by decide +kernel
theorem dX7_init_45 : decode cX7_init 45 = .ok (.putfield 33, 3) := by decide +kernel
theorem dX7_init_48 : decode cX7_init 48 = .ok (.aload_n 0, 1) := by decide +kernel
theorem dX7_init_49 : decode cX7_init 49 = .ok (.new 37, 3) := by decide +kernel
theorem dX7_init_52 : decode cX7_init 52 = .ok (.dup, 1) := by decide +kernel
theorem dX7_init_53 : decode cX7_init 53 = .ok (.invokespecial 39, 3) := by decide +kernel
theorem dX7_init_56 : decode cX7_init 56 = .ok (.putfield 40, 3) := by decide +kernel
theorem dX7_init_59 : decode cX7_init 59 = .ok (.aload_n 0, 1) := by decide +kernel
theorem dX7_init_60 : decode cX7_init 60 = .ok (.new 44, 3) := by decide +kernel
theorem dX7_init_63 : decode cX7_init 63 = .ok (.dup, 1) := by decide +kernel
theorem dX7_init_64 : decode cX7_init 64 = .ok (.invokespecial 46, 3) := by decide +kernel
theorem dX7_init_67 : decode cX7_init 67 = .ok (.putfield 47, 3) := by decide +kernel
theorem dX7_init_70 : decode cX7_init 70 = .ok (.aload_n 0, 1) := by decide +kernel
theorem dX7_init_71 : decode cX7_init 71 = .ok (.new 51, 3) := by decide +kernel
theorem dX7_init_74 : decode cX7_init 74 = .ok (.dup, 1) := by decide +kernel
theorem dX7_init_75 : decode cX7_init 75 = .ok (.invokespecial 53, 3) := by decide +kernel
theorem dX7_init_78 : decode cX7_init 78 = .ok (.putfield 54, 3) := by decide +kernel
theorem dX7_init_81 : decode cX7_init 81 = .ok (.aload_n 0, 1) := by decide +kernel
theorem dX7_init_82 : decode cX7_init 82 = .ok (.bipush 14, 2) := by decide +kernel
theorem dX7_init_84 : decode cX7_init 84 = .ok (.newarray .long, 2) := by decide +kernel
theorem dX7_init_86 : decode cX7_init 86 = .ok (.putfield 58, 3) := by decide +kernel
theorem dX7_init_89 : decode cX7_init 89 = .ok (.return_, 1) := by decide +kernel
set_option maxRecDepth 20000 in
theorem ggX7_reset_X2_begin : GoodIn wsX7_reset wsX2_begin := goodIn_r _ [8, 9, 10, 19, 20, 21, 22, 23] (by decide +kernel) (by decide +kernel)
set_option maxRecDepth 20000 in
theorem gX7_reset_X2_begin : GoodIn wsX7_reset (wsV RX7 73 RX2 yX2_begin wsX2_begin) := goodIn_app (goodIn_of _ (by decide +kernel)) ggX7_reset_X2_begin
theorem dX7_reset_0 : decode cX7_reset 0 = .ok (.iload_n 1, 1) := by decide +kernel
theorem dX7_reset_1 : decode cX7_reset 1 = .ok (.iconst 1, 1) := by decide +kernel
theorem dX7_reset_2 : decode cX7_reset 2 = .ok (.if_icmp .lt 9, 3) := by decide +kernel
theorem dX7_reset_5 : decode cX7_reset 5 = .ok (.iload_n 1, 1) := by decide +kernel
theorem dX7_reset_6 : decode cX7_reset 6 = .ok (.bipush 16, 2) := by decide +kernel
theorem dX7_reset_8 : decode cX7_reset 8 = .ok (.if_icmp .le 13, 3) := by decide +kernel
theorem dX7_reset_11 : decode cX7_reset 11 = .ok (.new 62, 3) := by decide +kernel
theorem dX7_reset_14 : decode cX7_reset 14 = .ok (.dup, 1) := by decide +kernel
theorem dX7_reset_15 : decode cX7_reset 15 = .ok (.ldc 64, 2) := by decide +kernel
theorem dX7_reset_17 : decode cX7_reset 17 = .ok (.invokespecial 66, 3) := by decide +kernel
theorem dX7_reset_20 : decode cX7_reset 20 = .ok (.athrow, 1) := by decide +kernel
theorem dX7_reset_21 : decode cX7_reset 21 = .ok (.aload_n 0, 1) := by decide +kernel
theorem dX7_reset_22 : decode cX7_reset 22 = .ok (.getfield 10, 3) := by decide +kernel
theorem dX7_reset_25 : decode cX7_reset 25 = .ok (.getfield 69, 3) := by decide +kernel
theorem dX7_reset_28 : decode cX7_reset 28 = .ok (.istore_n 2, 1) := by decide +kernel
theorem dX7_reset_29 : decode cX7_reset 29 = .ok (.aload_n 0, 1) := by decide +kernel
theorem dX7_reset_30 : decode cX7_reset 30 = .ok (.getfield 10, 3) := by decide +kernel
theorem dX7_reset_33 : decode cX7_reset 33 = .ok (.iload_n 1, 1) := by decide +kernel
theorem dX7_reset_34 : decode cX7_reset 34 = .ok (.invokevirtual 73, 3) := by decide +kernel
theorem dX7_reset_37 : decode cX7_reset 37 = .ok (.iload_n 2, 1) := by decide +kernel
theorem dX7_reset_38 : decode cX7_reset 38 = .ok (.ireturn, 1) := by decide +kernel
set_option maxRecDepth 20000 in
theorem ggX7_edge_X2_hasVertex : GoodIn wsX7_edge wsX2_hasVertex := goodIn_r _ [12, 13, 64, 65, 66, 67, 68] (by decide +kernel) (by decide +kernel)
set_option maxRecDepth 20000 in
theorem gX7_edge_X2_hasVertex : GoodIn wsX7_edge (wsV RX7 77 RX2 yX2_hasVertex wsX2_hasVertex) := goodIn_app (goodIn_of _ (by decide +kernel)) ggX7_edge_X2_hasVertex
set_option maxRecDepth 20000 in
theorem ggX7_edge_X7_joinWhole : GoodIn wsX7_edge wsX7_joinWhole := goodIn_r _ [18, 5, 19, 20, 21, 17, 22, 7, 23, 24, 25, 26, 27, 28, 29, 30, 31, 32, 33, 34, 35, 36, 37, 38, 39, 40, 41, 42, 43, 44, 45, 46, 56, 57, 58, 59, 60, 61, 62, 63, 64, 65, 66, 67, 68, 69, 70, 71, 72] (by decide +kernel) (by decide +kernel)
set_option maxRecDepth 20000 in
theorem gX7_edge_X7_joinWhole : GoodIn wsX7_edge (wsV RX7 91 RX7 yX7_joinWhole wsX7_joinWhole) := goodIn_app (goodIn_of _ (by decide +kernel)) ggX7_edge_X7_joinWhole
set_option maxRecDepth 20000 in
theorem ggX7_edge_X3_together : GoodIn wsX7_edge wsX3_together := goodIn_r _ [42, 30, 69, 70, 71, 72] (by decide +kernel) (by decide +kernel)
set_option maxRecDepth 20000 in
theorem gX7_edge_X3_together : GoodIn wsX7_edge (wsV RX7 95 RX3 yX3_together wsX3_together) := goodIn_app (goodIn_of _ (by decide +kernel)) ggX7_edge_X3_together
set_option maxRecDepth 20000 in
theorem ggX7_edge_X2_append : GoodIn wsX7_edge wsX2_append := goodIn_r _ [51, 52, 53, 54, 55, 64, 65, 66, 67, 68] (by decide +kernel) (by decide +kernel)
set_option maxRecDepth 20000 in
theorem gX7_edge_X2_append : GoodIn wsX7_edge (wsV RX7 101 RX2 yX2_append wsX2_append) := goodIn_app (goodIn_of _ (by decide +kernel)) ggX7_edge_X2_append
theorem dX7_edge_0 : decode cX7_edge 0 = .ok (.aload_n 0, 1) := by decide +kernel
theorem dX7_edge_1 : decode cX7_edge 1 = .ok (.getfield 10, 3) := by decide +kernel
theorem dX7_edge_4 : decode cX7_edge 4 = .ok (.iload_n 1, 1) := by decide +kernel
theorem dX7_edge_5 : decode cX7_edge 5 = .ok (.invokevirtual 77, 3) := by decide +kernel
theorem dX7_edge_8 : decode cX7_edge 8 = .ok (.ifCond .eq 14, 3) := by decide +kernel
theorem dX7_edge_11 : decode cX7_edge 11 = .ok (.aload_n 0, 1) := by decide +kernel
theorem dX7_edge_12 : decode cX7_edge 12 = .ok (.getfield 10, 3) := by decide +kernel
theorem dX7_edge_15 : decode cX7_edge 15 = .ok (.iload_n 2, 1) := by decide +kernel
theorem dX7_edge_16 : decode cX7_edge 16 = .ok (.invokevirtual 77, 3) := by decide +kernel
theorem dX7_edge_19 : decode cX7_edge 19 = .ok (.ifCond .ne 13, 3) := by decide +kernel
theorem dX7_edge_22 : decode cX7_edge 22 = .ok (.new 62, 3) := by decide +kernel
theorem dX7_edge_25 : decode cX7_edge 25 = .ok (.dup, 1) := by decide +kernel
theorem dX7_edge_26 : decode cX7_edge 26 = .ok (.ldc 81, 2) := by decide +kernel
theorem dX7_edge_28 : decode cX7_edge 28 = .ok (.invokespecial 66, 3) := by decide +kernel
theorem dX7_edge_31 : decode cX7_edge 31 = .ok (.athrow, 1) := by decide +kernel
theorem dX7_edge_32 : decode cX7_edge 32 = .ok (.iload_n 3, 1) := by decide +kernel
theorem dX7_edge_33 : decode cX7_edge 33 = .ok (.ifCond .lt 9, 3) := by decide +kernel
theorem dX7_edge_36 : decode cX7_edge 36 = .ok (.iload_n 3, 1) := by decide +kernel
theorem dX7_edge_37 : decode cX7_edge 37 = .ok (.ldc 83, 2) := by decide +kernel
theorem dX7_edge_39 : decode cX7_edge 39 = .ok (.if_icmp .le 13, 3) := by decide +kernel
theorem dX7_edge_42 : decode cX7_edge 42 = .ok (.new 62, 3) := by decide +kernel
theorem dX7_edge_45 : decode cX7_edge 45 = .ok (.dup, 1) := by decide +kernel
theorem dX7_edge_46 : decode cX7_edge 46 = .ok (.ldc 84, 2) := by decide +kernel
theorem dX7_edge_48 : decode cX7_edge 48 = .ok (.invokespecial 66, 3) := by decide +kernel
theorem dX7_edge_51 : decode cX7_edge 51 = .ok (.athrow, 1) := by decide +kernel
theorem dX7_edge_52 : decode cX7_edge 52 = .ok (.aload_n 0, 1) := by decide +kernel
theorem dX7_edge_53 : decode cX7_edge 53 = .ok (.getfield 10, 3) := by decide +kernel
theorem dX7_edge_56 : decode cX7_edge 56 = .ok (.getfield 69, 3) := by decide +kernel
theorem dX7_edge_59 : decode cX7_edge 59 = .ok (.bipush 40, 2) := by decide +kernel
theorem dX7_edge_61 : decode cX7_edge 61 = .ok (.if_icmp .lt 13, 3) := by decide +kernel
theorem dX7_edge_64 : decode cX7_edge 64 = .ok (.new 86, 3) := by decide +kernel
theorem dX7_edge_67 : decode cX7_edge 67 = .ok (.dup, 1) := by decide +kernel
theorem dX7_edge_68 : decode cX7_edge 68 = .ok (.ldc 88, 2) := by decide +kernel
theorem dX7_edge_70 : decode cX7_edge 70 = .ok (.invokespecial 90, 3) := by decide +kernel
theorem dX7_edge_73 : decode cX7_edge 73 = .ok (.athrow, 1) := by decide +kernel
theorem dX7_edge_74 : decode cX7_edge 74 = .ok (.aload_n 0, 1) := by decide +kernel
theorem dX7_edge_75 : decode cX7_edge 75 = .ok (.invokevirtual 91, 3) := by decide +kernel
theorem dX7_edge_78 : decode cX7_edge 78 = .ok (.bipush 14, 2) := by decide +kernel
theorem dX7_edge_80 : decode cX7_edge 80 = .ok (.if_icmp .lt 25, 3) := by decide +kernel
theorem dX7_edge_83 : decode cX7_edge 83 = .ok (.aload_n 0, 1) := by decide +kernel
theorem dX7_edge_84 : decode cX7_edge 84 = .ok (.getfield 26, 3) := by decide +kernel
theorem dX7_edge_87 : decode cX7_edge 87 = .ok (.iload_n 1, 1) := by decide +kernel
theorem dX7_edge_88 : decode cX7_edge 88 = .ok (.iload_n 2, 1) := by decide +kernel
theorem dX7_edge_89 : decode cX7_edge 89 = .ok (.invokevirtual 95, 3) := by decide +kernel
theorem dX7_edge_92 : decode cX7_edge 92 = .ok (.ifCond .eq 13, 3) := by decide +kernel
theorem dX7_edge_95 : decode cX7_edge 95 = .ok (.new 86, 3) := by decide +kernel
theorem dX7_edge_98 : decode cX7_edge 98 = .ok (.dup, 1) := by decide +kernel
theorem dX7_edge_99 : decode cX7_edge 99 = .ok (.ldc 99, 2) := by decide +kernel
theorem dX7_edge_101 : decode cX7_edge 101 = .ok (.invokespecial 90, 3) := by decide +kernel
theorem dX7_edge_104 : decode cX7_edge 104 = .ok (.athrow, 1) := by decide +kernel
theorem dX7_edge_105 : decode cX7_edge 105 = .ok (.aload_n 0, 1) := by decide +kernel
theorem dX7_edge_106 : decode cX7_edge 106 = .ok (.getfield 10, 3) := by decide +kernel
theorem dX7_edge_109 : decode cX7_edge 109 = .ok (.iload_n 1, 1) := by decide +kernel
theorem dX7_edge_110 : decode cX7_edge 110 = .ok (.iload_n 2, 1) := by decide +kernel
theorem dX7_edge_111 : decode cX7_edge 111 = .ok (.iload_n 3, 1) := by decide +kernel
theorem dX7_edge_112 : decode cX7_edge 112 = .ok (.invokevirtual 101, 3) := by decide +kernel
theorem dX7_edge_115 : decode cX7_edge 115 = .ok (.ireturn, 1) := by decide +kernel
set_option maxRecDepth 20000 in
theorem ggX7_drop_X2_removeLast : GoodIn wsX7_drop wsX2_removeLast := goodIn_r _ [8, 9, 18, 19, 20, 21, 22] (by decide +kernel) (by decide +kernel)
set_option maxRecDepth 20000 in
theorem gX7_drop_X2_removeLast : GoodIn wsX7_drop (wsV RX7 107 RX2 yX2_removeLast wsX2_removeLast) := goodIn_app (goodIn_of _ (by decide +kernel)) ggX7_drop_X2_removeLast
theorem dX7_drop_0 : decode cX7_drop 0 = .ok (.aload_n 0, 1) := by decide +kernel
theorem dX7_drop_1 : decode cX7_drop 1 = .ok (.getfield 10, 3) := by decide +kernel
theorem dX7_drop_4 : decode cX7_drop 4 = .ok (.getfield 69, 3) := by decide +kernel
theorem dX7_drop_7 : decode cX7_drop 7 = .ok (.ifCond .ne 13, 3) := by decide +kernel
theorem dX7_drop_10 : decode cX7_drop 10 = .ok (.new 86, 3) := by decide +kernel
theorem dX7_drop_13 : decode cX7_drop 13 = .ok (.dup, 1) := by decide +kernel
theorem dX7_drop_14 : decode cX7_drop 14 = .ok (.ldc 105, 2) := by decide +kernel
theorem dX7_drop_16 : decode cX7_drop 16 = .ok (.invokespecial 90, 3) := by decide +kernel
theorem dX7_drop_19 : decode cX7_drop 19 = .ok (.athrow, 1) := by decide +kernel
theorem dX7_drop_20 : decode cX7_drop 20 = .ok (.aload_n 0, 1) := by decide +kernel
theorem dX7_drop_21 : decode cX7_drop 21 = .ok (.getfield 10, 3) := by decide +kernel
theorem dX7_drop_24 : decode cX7_drop 24 = .ok (.invokevirtual 107, 3) := by decide +kernel
theorem dX7_drop_27 : decode cX7_drop 27 = .ok (.ireturn, 1) := by decide +kernel
set_option maxRecDepth 20000 in
theorem ggX7_forests_X7_checkEdges : GoodIn wsX7_forests wsX7_checkEdges := goodIn_ca (goodIn_r _ [8, 9, 10, 2, 57, 58, 59, 60, 61, 62, 63, 64, 65, 66, 67, 68, 69] (by decide +kernel) (by decide +kernel)) (goodIn_sub (fun _ h => List.mem_cons_of_mem _ (List.mem_append_right _ h)) (by decide +kernel))
set_option maxRecDepth 20000 in
theorem gX7_forests_X7_checkEdges : GoodIn wsX7_forests (wsV RX7 110 RX7 yX7_checkEdges wsX7_checkEdges) := goodIn_app (goodIn_of _ (by decide +kernel)) ggX7_forests_X7_checkEdges
set_option maxRecDepth 20000 in
theorem ggX7_forests_X7_joinSet : GoodIn wsX7_forests wsX7_joinSet := goodIn_r _ [14, 3, 2, 15, 16, 17, 18, 19, 20, 21, 22, 23, 24, 25, 7, 26, 27, 28, 29, 30, 31, 32, 33, 34, 35, 36, 37, 38, 57, 58, 59, 60, 61, 62, 63, 64, 65, 66, 67, 68, 69, 70, 71, 72, 73] (by decide +kernel) (by decide +kernel)
set_option maxRecDepth 20000 in
theorem gX7_forests_X7_joinSet : GoodIn wsX7_forests (wsV RX7 114 RX7 yX7_joinSet wsX7_joinSet) := goodIn_app (goodIn_of _ (by decide +kernel)) ggX7_forests_X7_joinSet
set_option maxRecDepth 20000 in
theorem ggX7_forests_X1_count : GoodIn wsX7_forests wsX1_count := goodIn_r _ [43, 44, 45, 46, 47, 48, 49, 50, 51, 42, 52, 53, 54, 55, 56, 65, 66, 67, 68, 69, 74, 70, 71, 72, 73] (by decide +kernel) (by decide +kernel)
set_option maxRecDepth 20000 in
theorem gX7_forests_X1_count : GoodIn wsX7_forests (wsV RX7 118 RX1 yX1_count wsX1_count) := goodIn_app (goodIn_of _ (by decide +kernel)) ggX7_forests_X1_count
theorem dX7_forests_0 : decode cX7_forests 0 = .ok (.aload_n 0, 1) := by decide +kernel
theorem dX7_forests_1 : decode cX7_forests 1 = .ok (.lload_n 1, 1) := by decide +kernel
theorem dX7_forests_2 : decode cX7_forests 2 = .ok (.invokevirtual 110, 3) := by decide +kernel
theorem dX7_forests_5 : decode cX7_forests 5 = .ok (.aload_n 0, 1) := by decide +kernel
theorem dX7_forests_6 : decode cX7_forests 6 = .ok (.lload_n 1, 1) := by decide +kernel
theorem dX7_forests_7 : decode cX7_forests 7 = .ok (.invokevirtual 114, 3) := by decide +kernel
theorem dX7_forests_10 : decode cX7_forests 10 = .ok (.ifCond .eq 5, 3) := by decide +kernel
theorem dX7_forests_13 : decode cX7_forests 13 = .ok (.lconst 0, 1) := by decide +kernel
theorem dX7_forests_14 : decode cX7_forests 14 = .ok (.lreturn, 1) := by decide +kernel
theorem dX7_forests_15 : decode cX7_forests 15 = .ok (.aload_n 0, 1) := by decide +kernel
theorem dX7_forests_16 : decode cX7_forests 16 = .ok (.getfield 47, 3) := by decide +kernel
theorem dX7_forests_19 : decode cX7_forests 19 = .ok (.aload_n 0, 1) := by decide +kernel
theorem dX7_forests_20 : decode cX7_forests 20 = .ok (.getfield 10, 3) := by decide +kernel
theorem dX7_forests_23 : decode cX7_forests 23 = .ok (.aload_n 0, 1) := by decide +kernel
theorem dX7_forests_24 : decode cX7_forests 24 = .ok (.getfield 26, 3) := by decide +kernel
theorem dX7_forests_27 : decode cX7_forests 27 = .ok (.invokevirtual 118, 3) := by decide +kernel
theorem dX7_forests_30 : decode cX7_forests 30 = .ok (.lreturn, 1) := by decide +kernel
set_option maxRecDepth 20000 in
theorem ggX7_lightest_X7_checkEdges : GoodIn wsX7_lightest wsX7_checkEdges := goodIn_ca (goodIn_r _ [7, 8, 9, 2, 73, 74, 75, 76, 77, 78, 79, 80, 81, 82, 83, 84, 85] (by decide +kernel) (by decide +kernel)) (goodIn_sub (fun _ h => List.mem_cons_of_mem _ (List.mem_append_right _ h)) (by decide +kernel))
set_option maxRecDepth 20000 in
theorem gX7_lightest_X7_checkEdges : GoodIn wsX7_lightest (wsV RX7 110 RX7 yX7_checkEdges wsX7_checkEdges) := goodIn_app (goodIn_of _ (by decide +kernel)) ggX7_lightest_X7_checkEdges
set_option maxRecDepth 20000 in
theorem ggX7_lightest_X7_joinSet : GoodIn wsX7_lightest wsX7_joinSet := goodIn_r _ [13, 14, 2, 15, 16, 17, 18, 19, 20, 21, 22, 23, 24, 25, 6, 26, 27, 28, 29, 30, 31, 32, 33, 34, 35, 36, 37, 38, 73, 74, 75, 76, 77, 78, 79, 80, 81, 82, 83, 84, 85, 86, 87, 88, 89] (by decide +kernel) (by decide +kernel)
set_option maxRecDepth 20000 in
theorem gX7_lightest_X7_joinSet : GoodIn wsX7_lightest (wsV RX7 114 RX7 yX7_joinSet wsX7_joinSet) := goodIn_app (goodIn_of _ (by decide +kernel)) ggX7_lightest_X7_joinSet
set_option maxRecDepth 20000 in
theorem ggX7_lightest_X2_weigh : GoodIn wsX7_lightest wsX2_weigh := goodIn_r _ [43, 44, 45, 46, 42, 47, 48, 49, 50, 51, 52, 53, 54, 55, 56, 57, 58, 59, 60, 61, 62, 63, 25, 6, 26, 81, 82, 83, 84, 85] (by decide +kernel) (by decide +kernel)
set_option maxRecDepth 20000 in
theorem gX7_lightest_X2_weigh : GoodIn wsX7_lightest (wsV RX7 124 RX2 yX2_weigh wsX2_weigh) := goodIn_app (goodIn_of _ (by decide +kernel)) ggX7_lightest_X2_weigh
set_option maxRecDepth 20000 in
theorem ggX7_lightest_X7_weightOfLightestJoins : GoodIn wsX7_lightest wsX7_weightOfLightestJoins := goodIn_r _ [67, 2, 14, 68, 69, 70, 6, 71, 72, 32, 33, 18, 34, 22, 27, 28, 29, 30, 23, 31, 35, 36, 37, 38, 20, 21, 73, 74, 75, 76, 77, 78, 79, 80, 81, 82, 83, 84, 85, 86, 87, 88, 89] (by decide +kernel) (by decide +kernel)
set_option maxRecDepth 20000 in
theorem gX7_lightest_X7_weightOfLightestJoins : GoodIn wsX7_lightest (wsV RX7 128 RX7 yX7_weightOfLightestJoins wsX7_weightOfLightestJoins) := goodIn_app (goodIn_of _ (by decide +kernel)) ggX7_lightest_X7_weightOfLightestJoins
theorem dX7_lightest_0 : decode cX7_lightest 0 = .ok (.aload_n 0, 1) := by decide +kernel
theorem dX7_lightest_1 : decode cX7_lightest 1 = .ok (.lload_n 1, 1) := by decide +kernel
theorem dX7_lightest_2 : decode cX7_lightest 2 = .ok (.invokevirtual 110, 3) := by decide +kernel
theorem dX7_lightest_5 : decode cX7_lightest 5 = .ok (.aload_n 0, 1) := by decide +kernel
theorem dX7_lightest_6 : decode cX7_lightest 6 = .ok (.lload_n 1, 1) := by decide +kernel
theorem dX7_lightest_7 : decode cX7_lightest 7 = .ok (.invokevirtual 114, 3) := by decide +kernel
theorem dX7_lightest_10 : decode cX7_lightest 10 = .ok (.ifCond .eq 7, 3) := by decide +kernel
theorem dX7_lightest_13 : decode cX7_lightest 13 = .ok (.ldc2_w 122, 3) := by decide +kernel
theorem dX7_lightest_16 : decode cX7_lightest 16 = .ok (.lreturn, 1) := by decide +kernel
theorem dX7_lightest_17 : decode cX7_lightest 17 = .ok (.aload_n 0, 1) := by decide +kernel
theorem dX7_lightest_18 : decode cX7_lightest 18 = .ok (.getfield 10, 3) := by decide +kernel
theorem dX7_lightest_21 : decode cX7_lightest 21 = .ok (.lload_n 1, 1) := by decide +kernel
theorem dX7_lightest_22 : decode cX7_lightest 22 = .ok (.invokevirtual 124, 3) := by decide +kernel
theorem dX7_lightest_25 : decode cX7_lightest 25 = .ok (.aload_n 0, 1) := by decide +kernel
theorem dX7_lightest_26 : decode cX7_lightest 26 = .ok (.invokevirtual 128, 3) := by decide +kernel
theorem dX7_lightest_29 : decode cX7_lightest 29 = .ok (.ladd, 1) := by decide +kernel
theorem dX7_lightest_30 : decode cX7_lightest 30 = .ok (.lreturn, 1) := by decide +kernel
set_option maxRecDepth 20000 in
theorem ggX7_isCycle_X7_checkEdges : GoodIn wsX7_isCycle wsX7_checkEdges := goodIn_ca (goodIn_r _ [6, 7, 8, 1, 46, 47, 48, 49, 50, 51, 52, 53, 54, 55, 56, 57, 58] (by decide +kernel) (by decide +kernel)) (goodIn_sub (fun _ h => List.mem_cons_of_mem _ (List.mem_append_right _ h)) (by decide +kernel))
set_option maxRecDepth 20000 in
theorem gX7_isCycle_X7_checkEdges : GoodIn wsX7_isCycle (wsV RX7 110 RX7 yX7_checkEdges wsX7_checkEdges) := goodIn_app (goodIn_of _ (by decide +kernel)) ggX7_isCycle_X7_checkEdges
set_option maxRecDepth 20000 in
theorem ggX7_isCycle_X2_isEven : GoodIn wsX7_isCycle wsX2_isEven := goodIn_r _ [13, 14, 15, 16, 17, 5, 18, 54, 55, 56, 57, 58] (by decide +kernel) (by decide +kernel)
set_option maxRecDepth 20000 in
theorem gX7_isCycle_X2_isEven : GoodIn wsX7_isCycle (wsV RX7 132 RX2 yX2_isEven wsX2_isEven) := goodIn_app (goodIn_of _ (by decide +kernel)) ggX7_isCycle_X2_isEven
set_option maxRecDepth 20000 in
theorem ggX7_isCycle_X7_joinSet : GoodIn wsX7_isCycle wsX7_joinSet := goodIn_r _ [22, 23, 1, 24, 25, 26, 27, 28, 29, 30, 31, 32, 33, 17, 5, 18, 34, 35, 36, 37, 38, 39, 40, 41, 42, 43, 44, 45, 46, 47, 48, 49, 50, 51, 52, 53, 54, 55, 56, 57, 58, 59, 60, 61, 62] (by decide +kernel) (by decide +kernel)
set_option maxRecDepth 20000 in
theorem gX7_isCycle_X7_joinSet : GoodIn wsX7_isCycle (wsV RX7 114 RX7 yX7_joinSet wsX7_joinSet) := goodIn_app (goodIn_of _ (by decide +kernel)) ggX7_isCycle_X7_joinSet
theorem dX7_isCycle_0 : decode cX7_isCycle 0 = .ok (.aload_n 0, 1) := by decide +kernel
theorem dX7_isCycle_1 : decode cX7_isCycle 1 = .ok (.lload_n 1, 1) := by decide +kernel
theorem dX7_isCycle_2 : decode cX7_isCycle 2 = .ok (.invokevirtual 110, 3) := by decide +kernel
theorem dX7_isCycle_5 : decode cX7_isCycle 5 = .ok (.aload_n 0, 1) := by decide +kernel
theorem dX7_isCycle_6 : decode cX7_isCycle 6 = .ok (.getfield 10, 3) := by decide +kernel
theorem dX7_isCycle_9 : decode cX7_isCycle 9 = .ok (.lload_n 1, 1) := by decide +kernel
theorem dX7_isCycle_10 : decode cX7_isCycle 10 = .ok (.invokevirtual 132, 3) := by decide +kernel
theorem dX7_isCycle_13 : decode cX7_isCycle 13 = .ok (.ifCond .ne 5, 3) := by decide +kernel
theorem dX7_isCycle_16 : decode cX7_isCycle 16 = .ok (.iconst 0, 1) := by decide +kernel
theorem dX7_isCycle_17 : decode cX7_isCycle 17 = .ok (.ireturn, 1) := by decide +kernel
theorem dX7_isCycle_18 : decode cX7_isCycle 18 = .ok (.aload_n 0, 1) := by decide +kernel
theorem dX7_isCycle_19 : decode cX7_isCycle 19 = .ok (.lload_n 1, 1) := by decide +kernel
theorem dX7_isCycle_20 : decode cX7_isCycle 20 = .ok (.invokevirtual 114, 3) := by decide +kernel
theorem dX7_isCycle_23 : decode cX7_isCycle 23 = .ok (.iconst 1, 1) := by decide +kernel
theorem dX7_isCycle_24 : decode cX7_isCycle 24 = .ok (.if_icmp .ne 7, 3) := by decide +kernel
theorem dX7_isCycle_27 : decode cX7_isCycle 27 = .ok (.iconst 2, 1) := by decide +kernel
theorem dX7_isCycle_28 : decode cX7_isCycle 28 = .ok (.goto 4, 3) := by decide +kernel
theorem dX7_isCycle_31 : decode cX7_isCycle 31 = .ok (.iconst 1, 1) := by decide +kernel
theorem dX7_isCycle_32 : decode cX7_isCycle 32 = .ok (.ireturn, 1) := by decide +kernel
set_option maxRecDepth 20000 in
theorem ggX7_through_X6_seek : GoodIn wsX7_through wsX6_seek := goodIn_r _ [10, 11, 12, 13, 14, 15, 16, 9, 17, 18, 19, 20, 21, 34, 35, 36, 37, 38, 39, 40] (by decide +kernel) (by decide +kernel)
set_option maxRecDepth 20000 in
theorem gX7_through_X6_seek : GoodIn wsX7_through (wsV RX7 145 RX6 yX6_seek wsX6_seek) := goodIn_app (goodIn_of _ (by decide +kernel)) ggX7_through_X6_seek
set_option maxRecDepth 20000 in
theorem ggX7_through_X6_reaches : GoodIn wsX7_through wsX6_reaches := goodIn_r _ [25, 11, 12, 39, 40] (by decide +kernel) (by decide +kernel)
set_option maxRecDepth 20000 in
theorem gX7_through_X6_reaches : GoodIn wsX7_through (wsV RX7 152 RX6 yX6_reaches wsX6_reaches) := goodIn_app (goodIn_of _ (by decide +kernel)) ggX7_through_X6_reaches
theorem dX7_through_0 : decode cX7_through 0 = .ok (.iload_n 1, 1) := by decide +kernel
theorem dX7_through_1 : decode cX7_through 1 = .ok (.ifCond .lt 14, 3) := by decide +kernel
theorem dX7_through_4 : decode cX7_through 4 = .ok (.iload_n 1, 1) := by decide +kernel
theorem dX7_through_5 : decode cX7_through 5 = .ok (.aload_n 0, 1) := by decide +kernel
theorem dX7_through_6 : decode cX7_through 6 = .ok (.getfield 10, 3) := by decide +kernel
theorem dX7_through_9 : decode cX7_through 9 = .ok (.getfield 69, 3) := by decide +kernel
theorem dX7_through_12 : decode cX7_through 12 = .ok (.if_icmp .lt 13, 3) := by decide +kernel
theorem dX7_through_15 : decode cX7_through 15 = .ok (.new 136, 3) := by decide +kernel
theorem dX7_through_18 : decode cX7_through 18 = .ok (.dup, 1) := by decide +kernel
theorem dX7_through_19 : decode cX7_through 19 = .ok (.ldc 138, 2) := by decide +kernel
theorem dX7_through_21 : decode cX7_through 21 = .ok (.invokespecial 140, 3) := by decide +kernel
theorem dX7_through_24 : decode cX7_through 24 = .ok (.athrow, 1) := by decide +kernel
theorem dX7_through_25 : decode cX7_through 25 = .ok (.aload_n 0, 1) := by decide +kernel
theorem dX7_through_26 : decode cX7_through 26 = .ok (.getfield 33, 3) := by decide +kernel
theorem dX7_through_29 : decode cX7_through 29 = .ok (.aload_n 0, 1) := by decide +kernel
theorem dX7_through_30 : decode cX7_through 30 = .ok (.getfield 10, 3) := by decide +kernel
theorem dX7_through_33 : decode cX7_through 33 = .ok (.aload_n 0, 1) := by decide +kernel
theorem dX7_through_34 : decode cX7_through 34 = .ok (.getfield 10, 3) := by decide +kernel
theorem dX7_through_37 : decode cX7_through 37 = .ok (.getfield 141, 3) := by decide +kernel
theorem dX7_through_40 : decode cX7_through 40 = .ok (.iload_n 1, 1) := by decide +kernel
theorem dX7_through_41 : decode cX7_through 41 = .ok (.iaload, 1) := by decide +kernel
theorem dX7_through_42 : decode cX7_through 42 = .ok (.iload_n 1, 1) := by decide +kernel
theorem dX7_through_43 : decode cX7_through 43 = .ok (.invokevirtual 145, 3) := by decide +kernel
theorem dX7_through_46 : decode cX7_through 46 = .ok (.aload_n 0, 1) := by decide +kernel
theorem dX7_through_47 : decode cX7_through 47 = .ok (.getfield 10, 3) := by decide +kernel
theorem dX7_through_50 : decode cX7_through 50 = .ok (.getfield 149, 3) := by decide +kernel
theorem dX7_through_53 : decode cX7_through 53 = .ok (.iload_n 1, 1) := by decide +kernel
theorem dX7_through_54 : decode cX7_through 54 = .ok (.iaload, 1) := by decide +kernel
theorem dX7_through_55 : decode cX7_through 55 = .ok (.istore_n 2, 1) := by decide +kernel
theorem dX7_through_56 : decode cX7_through 56 = .ok (.aload_n 0, 1) := by decide +kernel
theorem dX7_through_57 : decode cX7_through 57 = .ok (.getfield 33, 3) := by decide +kernel
theorem dX7_through_60 : decode cX7_through 60 = .ok (.iload_n 2, 1) := by decide +kernel
theorem dX7_through_61 : decode cX7_through 61 = .ok (.invokevirtual 152, 3) := by decide +kernel
theorem dX7_through_64 : decode cX7_through 64 = .ok (.ifCond .eq 26, 3) := by decide +kernel
theorem dX7_through_67 : decode cX7_through 67 = .ok (.aload_n 0, 1) := by decide +kernel
theorem dX7_through_68 : decode cX7_through 68 = .ok (.getfield 33, 3) := by decide +kernel
theorem dX7_through_71 : decode cX7_through 71 = .ok (.getfield 155, 3) := by decide +kernel
theorem dX7_through_74 : decode cX7_through 74 = .ok (.iload_n 2, 1) := by decide +kernel
theorem dX7_through_75 : decode cX7_through 75 = .ok (.laload, 1) := by decide +kernel
theorem dX7_through_76 : decode cX7_through 76 = .ok (.aload_n 0, 1) := by decide +kernel
theorem dX7_through_77 : decode cX7_through 77 = .ok (.getfield 10, 3) := by decide +kernel
theorem dX7_through_80 : decode cX7_through 80 = .ok (.getfield 158, 3) := by decide +kernel
theorem dX7_through_83 : decode cX7_through 83 = .ok (.iload_n 1, 1) := by decide +kernel
theorem dX7_through_84 : decode cX7_through 84 = .ok (.iaload, 1) := by decide +kernel
theorem dX7_through_85 : decode cX7_through 85 = .ok (.i2l, 1) := by decide +kernel
theorem dX7_through_86 : decode cX7_through 86 = .ok (.ladd, 1) := by decide +kernel
theorem dX7_through_87 : decode cX7_through 87 = .ok (.goto 6, 3) := by decide +kernel
theorem dX7_through_90 : decode cX7_through 90 = .ok (.ldc2_w 122, 3) := by decide +kernel
theorem dX7_through_93 : decode cX7_through 93 = .ok (.lreturn, 1) := by decide +kernel
set_option maxRecDepth 20000 in
theorem ggX7_basis_X7_joinWhole : GoodIn wsX7_basis wsX7_joinWhole := goodIn_r _ [10, 4, 11, 12, 13, 9, 14, 15, 16, 17, 18, 19, 20, 21, 22, 23, 24, 25, 26, 27, 28, 29, 30, 31, 32, 33, 34, 35, 36, 37, 38, 39, 90, 91, 92, 93, 94, 95, 96, 97, 104, 105, 106, 107, 108, 109, 110, 111, 112] (by decide +kernel) (by decide +kernel)
set_option maxRecDepth 20000 in
theorem gX7_basis_X7_joinWhole : GoodIn wsX7_basis (wsV RX7 91 RX7 yX7_joinWhole wsX7_joinWhole) := goodIn_app (goodIn_of _ (by decide +kernel)) ggX7_basis_X7_joinWhole
set_option maxRecDepth 20000 in
theorem ggX7_basis_X4_find : GoodIn wsX7_basis wsX4_find := goodIn_r _ [44, 45, 46, 47, 48, 49, 50, 51, 52, 43, 53, 54, 55, 56, 57, 58, 59, 60, 61, 62, 63, 64, 65, 66, 67, 68, 69, 70, 71, 72, 73, 74, 75, 76, 77, 78, 79, 80, 81, 82, 83, 84, 85, 86, 87, 88, 89, 98, 99, 100, 101, 102, 103, 104, 105, 106, 107, 108, 113, 114] (by decide +kernel) (by decide +kernel)
set_option maxRecDepth 20000 in
theorem gX7_basis_X4_find : GoodIn wsX7_basis (wsV RX7 163 RX4 yX4_find wsX4_find) := goodIn_app (goodIn_of _ (by decide +kernel)) ggX7_basis_X4_find
theorem dX7_basis_0 : decode cX7_basis 0 = .ok (.iload_n 1, 1) := by decide +kernel
theorem dX7_basis_1 : decode cX7_basis 1 = .ok (.ifCond .lt 11, 3) := by decide +kernel
theorem dX7_basis_4 : decode cX7_basis 4 = .ok (.iload_n 1, 1) := by decide +kernel
theorem dX7_basis_5 : decode cX7_basis 5 = .ok (.aload_n 0, 1) := by decide +kernel
theorem dX7_basis_6 : decode cX7_basis 6 = .ok (.invokevirtual 91, 3) := by decide +kernel
theorem dX7_basis_9 : decode cX7_basis 9 = .ok (.if_icmp .lt 13, 3) := by decide +kernel
theorem dX7_basis_12 : decode cX7_basis 12 = .ok (.new 136, 3) := by decide +kernel
theorem dX7_basis_15 : decode cX7_basis 15 = .ok (.dup, 1) := by decide +kernel
theorem dX7_basis_16 : decode cX7_basis 16 = .ok (.ldc 161, 2) := by decide +kernel
theorem dX7_basis_18 : decode cX7_basis 18 = .ok (.invokespecial 140, 3) := by decide +kernel
theorem dX7_basis_21 : decode cX7_basis 21 = .ok (.athrow, 1) := by decide +kernel
theorem dX7_basis_22 : decode cX7_basis 22 = .ok (.aload_n 0, 1) := by decide +kernel
theorem dX7_basis_23 : decode cX7_basis 23 = .ok (.getfield 40, 3) := by decide +kernel
theorem dX7_basis_26 : decode cX7_basis 26 = .ok (.aload_n 0, 1) := by decide +kernel
theorem dX7_basis_27 : decode cX7_basis 27 = .ok (.getfield 10, 3) := by decide +kernel
theorem dX7_basis_30 : decode cX7_basis 30 = .ok (.aload_n 0, 1) := by decide +kernel
theorem dX7_basis_31 : decode cX7_basis 31 = .ok (.getfield 33, 3) := by decide +kernel
theorem dX7_basis_34 : decode cX7_basis 34 = .ok (.invokevirtual 163, 3) := by decide +kernel
theorem dX7_basis_37 : decode cX7_basis 37 = .ok (.aload_n 0, 1) := by decide +kernel
theorem dX7_basis_38 : decode cX7_basis 38 = .ok (.getfield 40, 3) := by decide +kernel
theorem dX7_basis_41 : decode cX7_basis 41 = .ok (.getfield 167, 3) := by decide +kernel
theorem dX7_basis_44 : decode cX7_basis 44 = .ok (.iload_n 1, 1) := by decide +kernel
theorem dX7_basis_45 : decode cX7_basis 45 = .ok (.laload, 1) := by decide +kernel
theorem dX7_basis_46 : decode cX7_basis 46 = .ok (.lreturn, 1) := by decide +kernel
set_option maxRecDepth 20000 in
theorem ggX7_belongs_X7_checkEdges : GoodIn wsX7_belongs wsX7_checkEdges := goodIn_ca (goodIn_r _ [8, 9, 10, 1, 99, 100, 101, 102, 103, 104, 105, 106, 107, 108, 109, 110, 111] (by decide +kernel) (by decide +kernel)) (goodIn_sub (fun _ h => List.mem_cons_of_mem _ (List.mem_append_right _ h)) (by decide +kernel))
set_option maxRecDepth 20000 in
theorem gX7_belongs_X7_checkEdges : GoodIn wsX7_belongs (wsV RX7 110 RX7 yX7_checkEdges wsX7_checkEdges) := goodIn_app (goodIn_of _ (by decide +kernel)) ggX7_belongs_X7_checkEdges
set_option maxRecDepth 20000 in
theorem ggX7_belongs_X2_isEven : GoodIn wsX7_belongs wsX2_isEven := goodIn_r _ [15, 16, 17, 18, 19, 7, 20, 107, 108, 109, 110, 111] (by decide +kernel) (by decide +kernel)
set_option maxRecDepth 20000 in
theorem gX7_belongs_X2_isEven : GoodIn wsX7_belongs (wsV RX7 132 RX2 yX2_isEven wsX2_isEven) := goodIn_app (goodIn_of _ (by decide +kernel)) ggX7_belongs_X2_isEven
set_option maxRecDepth 20000 in
theorem ggX7_belongs_X4_find : GoodIn wsX7_belongs wsX4_find := goodIn_r _ [25, 26, 27, 28, 29, 30, 31, 32, 33, 24, 34, 35, 36, 37, 38, 39, 40, 41, 42, 43, 44, 45, 46, 47, 48, 49, 50, 51, 52, 53, 54, 55, 56, 57, 58, 59, 60, 61, 62, 63, 64, 65, 66, 67, 68, 69, 70, 112, 113, 114, 115, 116, 117, 107, 108, 109, 110, 111, 118, 119] (by decide +kernel) (by decide +kernel)
set_option maxRecDepth 20000 in
theorem gX7_belongs_X4_find : GoodIn wsX7_belongs (wsV RX7 163 RX4 yX4_find wsX4_find) := goodIn_app (goodIn_of _ (by decide +kernel)) ggX7_belongs_X4_find
set_option maxRecDepth 20000 in
theorem ggX7_belongs_X2_weigh : GoodIn wsX7_belongs wsX2_weigh := goodIn_r _ [74, 75, 76, 77, 14, 78, 79, 80, 81, 82, 83, 84, 85, 86, 87, 88, 89, 90, 91, 92, 93, 94, 19, 7, 20, 107, 108, 109, 110, 111] (by decide +kernel) (by decide +kernel)
set_option maxRecDepth 20000 in
theorem gX7_belongs_X2_weigh : GoodIn wsX7_belongs (wsV RX7 124 RX2 yX2_weigh wsX2_weigh) := goodIn_app (goodIn_of _ (by decide +kernel)) ggX7_belongs_X2_weigh
set_option maxRecDepth 20000 in
theorem ggX7_belongs_X4_isSumOfLighter : GoodIn wsX7_belongs wsX4_isSumOfLighter := goodIn_r _ [98, 26, 29, 27, 68, 69, 24, 70, 112, 113, 114, 115, 116, 117] (by decide +kernel) (by decide +kernel)
set_option maxRecDepth 20000 in
theorem gX7_belongs_X4_isSumOfLighter : GoodIn wsX7_belongs (wsV RX7 169 RX4 yX4_isSumOfLighter wsX4_isSumOfLighter) := goodIn_app (goodIn_of _ (by decide +kernel)) ggX7_belongs_X4_isSumOfLighter
theorem dX7_belongs_0 : decode cX7_belongs 0 = .ok (.aload_n 0, 1) := by decide +kernel
theorem dX7_belongs_1 : decode cX7_belongs 1 = .ok (.lload_n 1, 1) := by decide +kernel
theorem dX7_belongs_2 : decode cX7_belongs 2 = .ok (.invokevirtual 110, 3) := by decide +kernel
theorem dX7_belongs_5 : decode cX7_belongs 5 = .ok (.aload_n 0, 1) := by decide +kernel
theorem dX7_belongs_6 : decode cX7_belongs 6 = .ok (.getfield 10, 3) := by decide +kernel
theorem dX7_belongs_9 : decode cX7_belongs 9 = .ok (.lload_n 1, 1) := by decide +kernel
theorem dX7_belongs_10 : decode cX7_belongs 10 = .ok (.invokevirtual 132, 3) := by decide +kernel
theorem dX7_belongs_13 : decode cX7_belongs 13 = .ok (.ifCond .ne 5, 3) := by decide +kernel
theorem dX7_belongs_16 : decode cX7_belongs 16 = .ok (.iconst 0, 1) := by decide +kernel
theorem dX7_belongs_17 : decode cX7_belongs 17 = .ok (.ireturn, 1) := by decide +kernel
theorem dX7_belongs_18 : decode cX7_belongs 18 = .ok (.aload_n 0, 1) := by decide +kernel
theorem dX7_belongs_19 : decode cX7_belongs 19 = .ok (.getfield 40, 3) := by decide +kernel
theorem dX7_belongs_22 : decode cX7_belongs 22 = .ok (.aload_n 0, 1) := by decide +kernel
theorem dX7_belongs_23 : decode cX7_belongs 23 = .ok (.getfield 10, 3) := by decide +kernel
theorem dX7_belongs_26 : decode cX7_belongs 26 = .ok (.aload_n 0, 1) := by decide +kernel
theorem dX7_belongs_27 : decode cX7_belongs 27 = .ok (.getfield 33, 3) := by decide +kernel
theorem dX7_belongs_30 : decode cX7_belongs 30 = .ok (.invokevirtual 163, 3) := by decide +kernel
theorem dX7_belongs_33 : decode cX7_belongs 33 = .ok (.aload_n 0, 1) := by decide +kernel
theorem dX7_belongs_34 : decode cX7_belongs 34 = .ok (.getfield 40, 3) := by decide +kernel
theorem dX7_belongs_37 : decode cX7_belongs 37 = .ok (.lload_n 1, 1) := by decide +kernel
theorem dX7_belongs_38 : decode cX7_belongs 38 = .ok (.aload_n 0, 1) := by decide +kernel
theorem dX7_belongs_39 : decode cX7_belongs 39 = .ok (.getfield 10, 3) := by decide +kernel
theorem dX7_belongs_42 : decode cX7_belongs 42 = .ok (.lload_n 1, 1) := by decide +kernel
theorem dX7_belongs_43 : decode cX7_belongs 43 = .ok (.invokevirtual 124, 3) := by decide +kernel
theorem dX7_belongs_46 : decode cX7_belongs 46 = .ok (.invokevirtual 169, 3) := by decide +kernel
theorem dX7_belongs_49 : decode cX7_belongs 49 = .ok (.ifCond .ne 7, 3) := by decide +kernel
theorem dX7_belongs_52 : decode cX7_belongs 52 = .ok (.iconst 1, 1) := by decide +kernel
theorem dX7_belongs_53 : decode cX7_belongs 53 = .ok (.goto 4, 3) := by decide +kernel
theorem dX7_belongs_56 : decode cX7_belongs 56 = .ok (.iconst 0, 1) := by decide +kernel
theorem dX7_belongs_57 : decode cX7_belongs 57 = .ok (.ireturn, 1) := by decide +kernel
set_option maxRecDepth 20000 in
theorem ggX7_cycles_X0_count : GoodIn wsX7_cycles wsX0_count := goodIn_r _ [7, 8, 9, 10, 11, 12, 13, 14, 6, 15, 24, 25, 26, 27, 28, 29] (by decide +kernel) (by decide +kernel)
set_option maxRecDepth 20000 in
theorem gX7_cycles_X0_count : GoodIn wsX7_cycles (wsV RX7 173 RX0 yX0_count wsX0_count) := goodIn_app (goodIn_of _ (by decide +kernel)) ggX7_cycles_X0_count
theorem dX7_cycles_0 : decode cX7_cycles 0 = .ok (.aload_n 0, 1) := by decide +kernel
theorem dX7_cycles_1 : decode cX7_cycles 1 = .ok (.getfield 54, 3) := by decide +kernel
theorem dX7_cycles_4 : decode cX7_cycles 4 = .ok (.aload_n 0, 1) := by decide +kernel
theorem dX7_cycles_5 : decode cX7_cycles 5 = .ok (.getfield 10, 3) := by decide +kernel
theorem dX7_cycles_8 : decode cX7_cycles 8 = .ok (.invokevirtual 173, 3) := by decide +kernel
theorem dX7_cycles_11 : decode cX7_cycles 11 = .ok (.ireturn, 1) := by decide +kernel
set_option maxRecDepth 20000 in
theorem ggX7_light_X7_fillRings : GoodIn wsX7_light wsX7_fillRings := goodIn_r _ [7, 8, 2, 1, 9, 10, 11, 12, 13, 14, 15, 16, 17, 18, 19, 20, 21, 22, 23, 24, 25, 26, 27, 28, 29, 54, 55, 56, 57, 58, 59, 60, 61, 62, 63, 64, 65, 66, 67, 68, 69, 70] (by decide +kernel) (by decide +kernel)
set_option maxRecDepth 20000 in
theorem gX7_light_X7_fillRings : GoodIn wsX7_light (wsV RX7 176 RX7 yX7_fillRings wsX7_fillRings) := goodIn_app (goodIn_of _ (by decide +kernel)) ggX7_light_X7_fillRings
set_option maxRecDepth 20000 in
theorem ggX7_light_J6_numberOfTrailingZeros_0f7a4 : GoodIn wsX7_light wsJ6_numberOfTrailingZeros_0f7a4 := goodIn_r _ [33, 34] (by decide +kernel) (by decide +kernel)
set_option maxRecDepth 20000 in
theorem gX7_light_J6_numberOfTrailingZeros_0f7a4 : GoodIn wsX7_light (va_wsS RX7 179 yJ6_numberOfTrailingZeros_0f7a4 wsJ6_numberOfTrailingZeros_0f7a4) := goodIn_app (goodIn_of _ (by decide +kernel)) ggX7_light_J6_numberOfTrailingZeros_0f7a4
set_option maxRecDepth 20000 in
theorem ggX7_light_X2_gain : GoodIn wsX7_light wsX2_gain := goodIn_r _ [39, 40, 41, 42, 43, 44, 45, 46, 47, 48, 49, 50, 51, 31, 32, 33, 34, 52, 6, 53, 62, 63, 64, 65, 66] (by decide +kernel) (by decide +kernel)
set_option maxRecDepth 20000 in
theorem gX7_light_X2_gain : GoodIn wsX7_light (wsV RX7 185 RX2 yX2_gain wsX2_gain) := goodIn_app (goodIn_of _ (by decide +kernel)) ggX7_light_X2_gain
theorem dX7_light_0 : decode cX7_light 0 = .ok (.iconst 1, 1) := by decide +kernel
theorem dX7_light_1 : decode cX7_light 1 = .ok (.aload_n 0, 1) := by decide +kernel
theorem dX7_light_2 : decode cX7_light 2 = .ok (.invokevirtual 176, 3) := by decide +kernel
theorem dX7_light_5 : decode cX7_light 5 = .ok (.ishl, 1) := by decide +kernel
theorem dX7_light_6 : decode cX7_light 6 = .ok (.istore_n 3, 1) := by decide +kernel
theorem dX7_light_7 : decode cX7_light 7 = .ok (.lconst 0, 1) := by decide +kernel
theorem dX7_light_8 : decode cX7_light 8 = .ok (.lstore 4, 2) := by decide +kernel
theorem dX7_light_10 : decode cX7_light 10 = .ok (.lconst 0, 1) := by decide +kernel
theorem dX7_light_11 : decode cX7_light 11 = .ok (.lstore 6, 2) := by decide +kernel
theorem dX7_light_13 : decode cX7_light 13 = .ok (.lload 6, 2) := by decide +kernel
theorem dX7_light_15 : decode cX7_light 15 = .ok (.lload_n 1, 1) := by decide +kernel
theorem dX7_light_16 : decode cX7_light 16 = .ok (.lcmp, 1) := by decide +kernel
theorem dX7_light_17 : decode cX7_light 17 = .ok (.ifCond .gt 7, 3) := by decide +kernel
theorem dX7_light_20 : decode cX7_light 20 = .ok (.iconst 1, 1) := by decide +kernel
theorem dX7_light_21 : decode cX7_light 21 = .ok (.goto 4, 3) := by decide +kernel
theorem dX7_light_24 : decode cX7_light 24 = .ok (.iconst 0, 1) := by decide +kernel
theorem dX7_light_25 : decode cX7_light 25 = .ok (.istore 8, 2) := by decide +kernel
theorem dX7_light_27 : decode cX7_light 27 = .ok (.iconst 1, 1) := by decide +kernel
theorem dX7_light_28 : decode cX7_light 28 = .ok (.istore 9, 2) := by decide +kernel
theorem dX7_light_30 : decode cX7_light 30 = .ok (.iload 9, 2) := by decide +kernel
theorem dX7_light_32 : decode cX7_light 32 = .ok (.iload_n 3, 1) := by decide +kernel
theorem dX7_light_33 : decode cX7_light 33 = .ok (.if_icmp .ge 54, 3) := by decide +kernel
theorem dX7_light_36 : decode cX7_light 36 = .ok (.aload_n 0, 1) := by decide +kernel
theorem dX7_light_37 : decode cX7_light 37 = .ok (.getfield 58, 3) := by decide +kernel
theorem dX7_light_40 : decode cX7_light 40 = .ok (.iload 9, 2) := by decide +kernel
theorem dX7_light_42 : decode cX7_light 42 = .ok (.invokestatic 179, 3) := by decide +kernel
theorem dX7_light_45 : decode cX7_light 45 = .ok (.laload, 1) := by decide +kernel
theorem dX7_light_46 : decode cX7_light 46 = .ok (.lstore 10, 2) := by decide +kernel
theorem dX7_light_48 : decode cX7_light 48 = .ok (.lload 4, 2) := by decide +kernel
theorem dX7_light_50 : decode cX7_light 50 = .ok (.lload 10, 2) := by decide +kernel
theorem dX7_light_52 : decode cX7_light 52 = .ok (.lxor, 1) := by decide +kernel
theorem dX7_light_53 : decode cX7_light 53 = .ok (.lstore 4, 2) := by decide +kernel
theorem dX7_light_55 : decode cX7_light 55 = .ok (.lload 6, 2) := by decide +kernel
theorem dX7_light_57 : decode cX7_light 57 = .ok (.aload_n 0, 1) := by decide +kernel
theorem dX7_light_58 : decode cX7_light 58 = .ok (.getfield 10, 3) := by decide +kernel
theorem dX7_light_61 : decode cX7_light 61 = .ok (.lload 10, 2) := by decide +kernel
theorem dX7_light_63 : decode cX7_light 63 = .ok (.lload 4, 2) := by decide +kernel
theorem dX7_light_65 : decode cX7_light 65 = .ok (.invokevirtual 185, 3) := by decide +kernel
theorem dX7_light_68 : decode cX7_light 68 = .ok (.ladd, 1) := by decide +kernel
theorem dX7_light_69 : decode cX7_light 69 = .ok (.lstore 6, 2) := by decide +kernel
theorem dX7_light_71 : decode cX7_light 71 = .ok (.lload 6, 2) := by decide +kernel
theorem dX7_light_73 : decode cX7_light 73 = .ok (.lload_n 1, 1) := by decide +kernel
theorem dX7_light_74 : decode cX7_light 74 = .ok (.lcmp, 1) := by decide +kernel
theorem dX7_light_75 : decode cX7_light 75 = .ok (.ifCond .gt 6, 3) := by decide +kernel
theorem dX7_light_78 : decode cX7_light 78 = .ok (.iinc 8 1, 3) := by decide +kernel
theorem dX7_light_81 : decode cX7_light 81 = .ok (.iinc 9 1, 3) := by decide +kernel
theorem dX7_light_84 : decode cX7_light 84 = .ok (.goto (-54), 3) := by decide +kernel
theorem dX7_light_87 : decode cX7_light 87 = .ok (.iload 8, 2) := by decide +kernel
theorem dX7_light_89 : decode cX7_light 89 = .ok (.ireturn, 1) := by decide +kernel
set_option maxRecDepth 20000 in
theorem ggX7_add_X7_checkListed : GoodIn wsX7_add wsX7_checkListed := goodIn_ca (goodIn_r _ [8, 9, 10] (by decide +kernel) (by decide +kernel)) (goodIn_sub (fun _ h => List.mem_cons_of_mem _ (List.mem_append_right _ h)) (by decide +kernel))
set_option maxRecDepth 20000 in
theorem gX7_add_X7_checkListed : GoodIn wsX7_add (wsV RX7 189 RX7 yX7_checkListed wsX7_checkListed) := goodIn_app (goodIn_of _ (by decide +kernel)) ggX7_add_X7_checkListed
set_option maxRecDepth 20000 in
theorem ggX7_add_X5_append : GoodIn wsX7_add wsX5_append := goodIn_r _ [15, 16, 17, 18, 19, 20, 21, 14, 22, 23, 7, 24, 25, 26, 27, 28, 29, 30, 31, 32, 33, 42, 43, 44] (by decide +kernel) (by decide +kernel)
set_option maxRecDepth 20000 in
theorem gX7_add_X5_append : GoodIn wsX7_add (wsV RX7 197 RX5 yX5_append wsX5_append) := goodIn_app (goodIn_of _ (by decide +kernel)) ggX7_add_X5_append
theorem dX7_add_0 : decode cX7_add 0 = .ok (.aload_n 0, 1) := by decide +kernel
theorem dX7_add_1 : decode cX7_add 1 = .ok (.lload_n 1, 1) := by decide +kernel
theorem dX7_add_2 : decode cX7_add 2 = .ok (.invokevirtual 189, 3) := by decide +kernel
theorem dX7_add_5 : decode cX7_add 5 = .ok (.aload_n 0, 1) := by decide +kernel
theorem dX7_add_6 : decode cX7_add 6 = .ok (.getfield 19, 3) := by decide +kernel
theorem dX7_add_9 : decode cX7_add 9 = .ok (.getfield 192, 3) := by decide +kernel
theorem dX7_add_12 : decode cX7_add 12 = .ok (.bipush 64, 2) := by decide +kernel
theorem dX7_add_14 : decode cX7_add 14 = .ok (.if_icmp .lt 13, 3) := by decide +kernel
theorem dX7_add_17 : decode cX7_add 17 = .ok (.new 86, 3) := by decide +kernel
theorem dX7_add_20 : decode cX7_add 20 = .ok (.dup, 1) := by decide +kernel
theorem dX7_add_21 : decode cX7_add 21 = .ok (.ldc 195, 2) := by decide +kernel
theorem dX7_add_23 : decode cX7_add 23 = .ok (.invokespecial 90, 3) := by decide +kernel
theorem dX7_add_26 : decode cX7_add 26 = .ok (.athrow, 1) := by decide +kernel
theorem dX7_add_27 : decode cX7_add 27 = .ok (.aload_n 0, 1) := by decide +kernel
theorem dX7_add_28 : decode cX7_add 28 = .ok (.getfield 19, 3) := by decide +kernel
theorem dX7_add_31 : decode cX7_add 31 = .ok (.lload_n 1, 1) := by decide +kernel
theorem dX7_add_32 : decode cX7_add 32 = .ok (.invokevirtual 197, 3) := by decide +kernel
theorem dX7_add_35 : decode cX7_add 35 = .ok (.ireturn, 1) := by decide +kernel
set_option maxRecDepth 20000 in
theorem ggX7_clear_X5_empty : GoodIn wsX7_clear wsX5_empty := goodIn_r _ [6, 7, 8, 9, 10, 11, 12, 13, 22, 23, 24] (by decide +kernel) (by decide +kernel)
set_option maxRecDepth 20000 in
theorem gX7_clear_X5_empty : GoodIn wsX7_clear (wsV RX7 199 RX5 yX5_empty wsX5_empty) := goodIn_app (goodIn_of _ (by decide +kernel)) ggX7_clear_X5_empty
theorem dX7_clear_0 : decode cX7_clear 0 = .ok (.aload_n 0, 1) := by decide +kernel
theorem dX7_clear_1 : decode cX7_clear 1 = .ok (.getfield 19, 3) := by decide +kernel
theorem dX7_clear_4 : decode cX7_clear 4 = .ok (.getfield 192, 3) := by decide +kernel
theorem dX7_clear_7 : decode cX7_clear 7 = .ok (.istore_n 1, 1) := by decide +kernel
theorem dX7_clear_8 : decode cX7_clear 8 = .ok (.aload_n 0, 1) := by decide +kernel
theorem dX7_clear_9 : decode cX7_clear 9 = .ok (.getfield 19, 3) := by decide +kernel
theorem dX7_clear_12 : decode cX7_clear 12 = .ok (.invokevirtual 199, 3) := by decide +kernel
theorem dX7_clear_15 : decode cX7_clear 15 = .ok (.iload_n 1, 1) := by decide +kernel
theorem dX7_clear_16 : decode cX7_clear 16 = .ok (.ireturn, 1) := by decide +kernel
set_option maxRecDepth 20000 in
theorem ggX7_spans_X7_checkListed : GoodIn wsX7_spans wsX7_checkListed := goodIn_ca (goodIn_r _ [6, 7, 8] (by decide +kernel) (by decide +kernel)) (goodIn_sub (fun _ h => List.mem_cons_of_mem _ (List.mem_append_right _ h)) (by decide +kernel))
set_option maxRecDepth 20000 in
theorem gX7_spans_X7_checkListed : GoodIn wsX7_spans (wsV RX7 189 RX7 yX7_checkListed wsX7_checkListed) := goodIn_app (goodIn_of _ (by decide +kernel)) ggX7_spans_X7_checkListed
set_option maxRecDepth 20000 in
theorem ggX7_spans_X5_rest : GoodIn wsX7_spans wsX5_rest := goodIn_r _ [13, 14, 15, 5, 16, 25, 26, 27] (by decide +kernel) (by decide +kernel)
set_option maxRecDepth 20000 in
theorem gX7_spans_X5_rest : GoodIn wsX7_spans (wsV RX7 202 RX5 yX5_rest wsX5_rest) := goodIn_app (goodIn_of _ (by decide +kernel)) ggX7_spans_X5_rest
theorem dX7_spans_0 : decode cX7_spans 0 = .ok (.aload_n 0, 1) := by decide +kernel
theorem dX7_spans_1 : decode cX7_spans 1 = .ok (.lload_n 1, 1) := by decide +kernel
theorem dX7_spans_2 : decode cX7_spans 2 = .ok (.invokevirtual 189, 3) := by decide +kernel
theorem dX7_spans_5 : decode cX7_spans 5 = .ok (.aload_n 0, 1) := by decide +kernel
theorem dX7_spans_6 : decode cX7_spans 6 = .ok (.getfield 19, 3) := by decide +kernel
theorem dX7_spans_9 : decode cX7_spans 9 = .ok (.lload_n 1, 1) := by decide +kernel
theorem dX7_spans_10 : decode cX7_spans 10 = .ok (.invokevirtual 202, 3) := by decide +kernel
theorem dX7_spans_13 : decode cX7_spans 13 = .ok (.lconst 0, 1) := by decide +kernel
theorem dX7_spans_14 : decode cX7_spans 14 = .ok (.lcmp, 1) := by decide +kernel
theorem dX7_spans_15 : decode cX7_spans 15 = .ok (.ifCond .ne 7, 3) := by decide +kernel
theorem dX7_spans_18 : decode cX7_spans 18 = .ok (.iconst 1, 1) := by decide +kernel
theorem dX7_spans_19 : decode cX7_spans 19 = .ok (.goto 4, 3) := by decide +kernel
theorem dX7_spans_22 : decode cX7_spans 22 = .ok (.iconst 0, 1) := by decide +kernel
theorem dX7_spans_23 : decode cX7_spans 23 = .ok (.ireturn, 1) := by decide +kernel
set_option maxRecDepth 20000 in
theorem ggX7_look_X7_countGroups : GoodIn wsX7_look wsX7_countGroups := goodIn_r _ [9, 10, 11, 12, 13, 8, 14, 3, 15, 16, 17, 18, 19, 20, 21, 22, 23, 24, 25, 26, 27, 28, 29, 30, 31, 32, 33, 34, 35, 36, 37, 38, 39, 40, 41, 42, 75, 76, 77, 78, 79, 80, 81, 82, 91, 92, 93, 94, 83, 84, 85, 86, 87] (by decide +kernel) (by decide +kernel)
set_option maxRecDepth 20000 in
theorem gX7_look_X7_countGroups : GoodIn wsX7_look (wsV RX7 208 RX7 yX7_countGroups wsX7_countGroups) := goodIn_app (goodIn_of _ (by decide +kernel)) ggX7_look_X7_countGroups
set_option maxRecDepth 20000 in
theorem ggX7_look_X7_joinWhole : GoodIn wsX7_look wsX7_joinWhole := goodIn_r _ [14, 3, 15, 16, 17, 8, 18, 10, 19, 20, 21, 22, 23, 24, 25, 26, 27, 28, 29, 30, 31, 32, 33, 34, 35, 36, 37, 38, 39, 40, 41, 42, 75, 76, 77, 78, 79, 80, 81, 82, 83, 84, 85, 86, 87, 91, 92, 93, 94] (by decide +kernel) (by decide +kernel)
set_option maxRecDepth 20000 in
theorem gX7_look_X7_joinWhole : GoodIn wsX7_look (wsV RX7 91 RX7 yX7_joinWhole wsX7_joinWhole) := goodIn_app (goodIn_of _ (by decide +kernel)) ggX7_look_X7_joinWhole
set_option maxRecDepth 20000 in
theorem ggX7_look_X7_countEdgesInNoCycle : GoodIn wsX7_look wsX7_countEdgesInNoCycle := goodIn_r _ [46, 47, 3, 48, 49, 50, 8, 51, 10, 19, 20, 21, 22, 23, 24, 25, 26, 27, 31, 32, 33, 34, 35, 36, 37, 38, 39, 40, 41, 42, 52, 53, 54, 55, 56, 57, 58, 75, 76, 77, 78, 79, 80, 81, 82, 83, 84, 85, 86, 87, 91, 92, 93, 94] (by decide +kernel) (by decide +kernel)
set_option maxRecDepth 20000 in
theorem gX7_look_X7_countEdgesInNoCycle : GoodIn wsX7_look (wsV RX7 211 RX7 yX7_countEdgesInNoCycle wsX7_countEdgesInNoCycle) := goodIn_app (goodIn_of _ (by decide +kernel)) ggX7_look_X7_countEdgesInNoCycle
set_option maxRecDepth 20000 in
theorem ggX7_look_X7_hasOddCycle : GoodIn wsX7_look wsX7_hasOddCycle := goodIn_r _ [62, 47, 48, 49, 50, 8, 51, 10, 3, 19, 20, 21, 22, 23, 24, 25, 26, 27, 31, 32, 33, 34, 35, 36, 37, 38, 39, 40, 41, 42, 52, 53, 54, 55, 56, 57, 58, 75, 76, 77, 78, 79, 80, 81, 82, 83, 84, 85, 86, 87, 91, 92, 93, 94] (by decide +kernel) (by decide +kernel)
set_option maxRecDepth 20000 in
theorem gX7_look_X7_hasOddCycle : GoodIn wsX7_look (wsV RX7 214 RX7 yX7_hasOddCycle wsX7_hasOddCycle) := goodIn_app (goodIn_of _ (by decide +kernel)) ggX7_look_X7_hasOddCycle
set_option maxRecDepth 20000 in
theorem ggX7_look_X7_countCuttingVertices : GoodIn wsX7_look wsX7_countCuttingVertices := goodIn_r _ [66, 3, 10, 5, 6, 7, 8, 9, 11, 12, 13, 14, 15, 16, 17, 18, 19, 20, 21, 22, 23, 24, 25, 26, 27, 28, 29, 30, 31, 32, 33, 34, 35, 36, 37, 38, 39, 40, 41, 42, 67, 68, 69, 70, 71, 72, 73, 74, 75, 76, 77, 78, 79, 80, 81, 82, 83, 84, 85, 86, 87, 91, 92, 93, 94] (by decide +kernel) (by decide +kernel)
set_option maxRecDepth 20000 in
theorem gX7_look_X7_countCuttingVertices : GoodIn wsX7_look (wsV RX7 221 RX7 yX7_countCuttingVertices wsX7_countCuttingVertices) := goodIn_app (goodIn_of _ (by decide +kernel)) ggX7_look_X7_countCuttingVertices
theorem dX7_look_0 : decode cX7_look 0 = .ok (.iload_n 1, 1) := by decide +kernel
theorem dX7_look_1 : decode cX7_look 1 = .ok (.tableswitch 116 0 8 #[51, 59, 67, 72, 77, 82, 95, 103, 111], 51) := by decide +kernel
theorem dX7_look_52 : decode cX7_look 52 = .ok (.aload_n 0, 1) := by decide +kernel
theorem dX7_look_53 : decode cX7_look 53 = .ok (.getfield 10, 3) := by decide +kernel
theorem dX7_look_56 : decode cX7_look 56 = .ok (.getfield 205, 3) := by decide +kernel
theorem dX7_look_59 : decode cX7_look 59 = .ok (.ireturn, 1) := by decide +kernel
theorem dX7_look_60 : decode cX7_look 60 = .ok (.aload_n 0, 1) := by decide +kernel
theorem dX7_look_61 : decode cX7_look 61 = .ok (.getfield 10, 3) := by decide +kernel
theorem dX7_look_64 : decode cX7_look 64 = .ok (.getfield 69, 3) := by decide +kernel
theorem dX7_look_67 : decode cX7_look 67 = .ok (.ireturn, 1) := by decide +kernel
theorem dX7_look_68 : decode cX7_look 68 = .ok (.aload_n 0, 1) := by decide +kernel
theorem dX7_look_69 : decode cX7_look 69 = .ok (.invokevirtual 208, 3) := by decide +kernel
theorem dX7_look_72 : decode cX7_look 72 = .ok (.ireturn, 1) := by decide +kernel
theorem dX7_look_73 : decode cX7_look 73 = .ok (.aload_n 0, 1) := by decide +kernel
theorem dX7_look_74 : decode cX7_look 74 = .ok (.invokevirtual 91, 3) := by decide +kernel
theorem dX7_look_77 : decode cX7_look 77 = .ok (.ireturn, 1) := by decide +kernel
theorem dX7_look_78 : decode cX7_look 78 = .ok (.aload_n 0, 1) := by decide +kernel
theorem dX7_look_79 : decode cX7_look 79 = .ok (.invokevirtual 211, 3) := by decide +kernel
theorem dX7_look_82 : decode cX7_look 82 = .ok (.ireturn, 1) := by decide +kernel
theorem dX7_look_83 : decode cX7_look 83 = .ok (.aload_n 0, 1) := by decide +kernel
theorem dX7_look_84 : decode cX7_look 84 = .ok (.invokevirtual 214, 3) := by decide +kernel
theorem dX7_look_87 : decode cX7_look 87 = .ok (.ifCond .eq 7, 3) := by decide +kernel
theorem dX7_look_90 : decode cX7_look 90 = .ok (.iconst 0, 1) := by decide +kernel
theorem dX7_look_91 : decode cX7_look 91 = .ok (.goto 4, 3) := by decide +kernel
theorem dX7_look_94 : decode cX7_look 94 = .ok (.iconst 1, 1) := by decide +kernel
theorem dX7_look_95 : decode cX7_look 95 = .ok (.ireturn, 1) := by decide +kernel
theorem dX7_look_96 : decode cX7_look 96 = .ok (.aload_n 0, 1) := by decide +kernel
theorem dX7_look_97 : decode cX7_look 97 = .ok (.getfield 19, 3) := by decide +kernel
theorem dX7_look_100 : decode cX7_look 100 = .ok (.getfield 192, 3) := by decide +kernel
theorem dX7_look_103 : decode cX7_look 103 = .ok (.ireturn, 1) := by decide +kernel
theorem dX7_look_104 : decode cX7_look 104 = .ok (.aload_n 0, 1) := by decide +kernel
theorem dX7_look_105 : decode cX7_look 105 = .ok (.getfield 19, 3) := by decide +kernel
theorem dX7_look_108 : decode cX7_look 108 = .ok (.getfield 218, 3) := by decide +kernel
theorem dX7_look_111 : decode cX7_look 111 = .ok (.ireturn, 1) := by decide +kernel
theorem dX7_look_112 : decode cX7_look 112 = .ok (.aload_n 0, 1) := by decide +kernel
theorem dX7_look_113 : decode cX7_look 113 = .ok (.invokevirtual 221, 3) := by decide +kernel
theorem dX7_look_116 : decode cX7_look 116 = .ok (.ireturn, 1) := by decide +kernel
theorem dX7_look_117 : decode cX7_look 117 = .ok (.new 62, 3) := by decide +kernel
theorem dX7_look_120 : decode cX7_look 120 = .ok (.dup, 1) := by decide +kernel
theorem dX7_look_121 : decode cX7_look 121 = .ok (.ldc 224, 2) := by decide +kernel
theorem dX7_look_123 : decode cX7_look 123 = .ok (.invokespecial 66, 3) := by decide +kernel
theorem dX7_look_126 : decode cX7_look 126 = .ok (.athrow, 1) := by decide +kernel
theorem dX7_checkEdges_0 : decode cX7_checkEdges 0 = .ok (.lload_n 1, 1) := by decide +kernel
theorem dX7_checkEdges_1 : decode cX7_checkEdges 1 = .ok (.aload_n 0, 1) := by decide +kernel
theorem dX7_checkEdges_2 : decode cX7_checkEdges 2 = .ok (.getfield 10, 3) := by decide +kernel
theorem dX7_checkEdges_5 : decode cX7_checkEdges 5 = .ok (.getfield 69, 3) := by decide +kernel
theorem dX7_checkEdges_8 : decode cX7_checkEdges 8 = .ok (.lushr, 1) := by decide +kernel
theorem dX7_checkEdges_9 : decode cX7_checkEdges 9 = .ok (.lconst 0, 1) := by decide +kernel
theorem dX7_checkEdges_10 : decode cX7_checkEdges 10 = .ok (.lcmp, 1) := by decide +kernel
theorem dX7_checkEdges_11 : decode cX7_checkEdges 11 = .ok (.ifCond .eq 13, 3) := by decide +kernel
theorem dX7_checkEdges_14 : decode cX7_checkEdges 14 = .ok (.new 62, 3) := by decide +kernel
theorem dX7_checkEdges_17 : decode cX7_checkEdges 17 = .ok (.dup, 1) := by decide +kernel
theorem dX7_checkEdges_18 : decode cX7_checkEdges 18 = .ok (.ldc 226, 2) := by decide +kernel
theorem dX7_checkEdges_20 : decode cX7_checkEdges 20 = .ok (.invokespecial 66, 3) := by decide +kernel
theorem dX7_checkEdges_23 : decode cX7_checkEdges 23 = .ok (.athrow, 1) := by decide +kernel
theorem dX7_checkEdges_24 : decode cX7_checkEdges 24 = .ok (.return_, 1) := by decide +kernel
theorem dX7_checkListed_0 : decode cX7_checkListed 0 = .ok (.lload_n 1, 1) := by decide +kernel
theorem dX7_checkListed_1 : decode cX7_checkListed 1 = .ok (.bipush 40, 2) := by decide +kernel
theorem dX7_checkListed_3 : decode cX7_checkListed 3 = .ok (.lushr, 1) := by decide +kernel
theorem dX7_checkListed_4 : decode cX7_checkListed 4 = .ok (.lconst 0, 1) := by decide +kernel
theorem dX7_checkListed_5 : decode cX7_checkListed 5 = .ok (.lcmp, 1) := by decide +kernel
theorem dX7_checkListed_6 : decode cX7_checkListed 6 = .ok (.ifCond .eq 13, 3) := by decide +kernel
theorem dX7_checkListed_9 : decode cX7_checkListed 9 = .ok (.new 62, 3) := by decide +kernel
theorem dX7_checkListed_12 : decode cX7_checkListed 12 = .ok (.dup, 1) := by decide +kernel
theorem dX7_checkListed_13 : decode cX7_checkListed 13 = .ok (.ldc 228, 2) := by decide +kernel
theorem dX7_checkListed_15 : decode cX7_checkListed 15 = .ok (.invokespecial 66, 3) := by decide +kernel
theorem dX7_checkListed_18 : decode cX7_checkListed 18 = .ok (.athrow, 1) := by decide +kernel
theorem dX7_checkListed_19 : decode cX7_checkListed 19 = .ok (.return_, 1) := by decide +kernel
theorem dX7_has_0 : decode cX7_has 0 = .ok (.lload_n 0, 1) := by decide +kernel
theorem dX7_has_1 : decode cX7_has 1 = .ok (.iload_n 2, 1) := by decide +kernel
theorem dX7_has_2 : decode cX7_has 2 = .ok (.lushr, 1) := by decide +kernel
theorem dX7_has_3 : decode cX7_has 3 = .ok (.lconst 1, 1) := by decide +kernel
theorem dX7_has_4 : decode cX7_has 4 = .ok (.land, 1) := by decide +kernel
theorem dX7_has_5 : decode cX7_has 5 = .ok (.lconst 0, 1) := by decide +kernel
theorem dX7_has_6 : decode cX7_has 6 = .ok (.lcmp, 1) := by decide +kernel
theorem dX7_has_7 : decode cX7_has 7 = .ok (.ifCond .eq 7, 3) := by decide +kernel
theorem dX7_has_10 : decode cX7_has 10 = .ok (.iconst 1, 1) := by decide +kernel
theorem dX7_has_11 : decode cX7_has 11 = .ok (.goto 4, 3) := by decide +kernel
theorem dX7_has_14 : decode cX7_has 14 = .ok (.iconst 0, 1) := by decide +kernel
theorem dX7_has_15 : decode cX7_has 15 = .ok (.ireturn, 1) := by decide +kernel
set_option maxRecDepth 20000 in
theorem ggX7_joinSet_X3_part : GoodIn wsX7_joinSet wsX3_part := goodIn_r _ [7, 8, 9, 10, 11, 41, 42, 43, 44] (by decide +kernel) (by decide +kernel)
set_option maxRecDepth 20000 in
theorem gX7_joinSet_X3_part : GoodIn wsX7_joinSet (wsV RX7 230 RX3 yX3_part wsX3_part) := goodIn_app (goodIn_of _ (by decide +kernel)) ggX7_joinSet_X3_part
set_option maxRecDepth 20000 in
theorem ggX7_joinSet_X7_has : GoodIn wsX7_joinSet wsX7_has := goodIn_r _ [15] (by decide +kernel) (by decide +kernel)
set_option maxRecDepth 20000 in
theorem gX7_joinSet_X7_has : GoodIn wsX7_joinSet (va_wsS RX7 233 yX7_has wsX7_has) := goodIn_app (goodIn_of _ (by decide +kernel)) ggX7_joinSet_X7_has
set_option maxRecDepth 20000 in
theorem ggX7_joinSet_X3_join : GoodIn wsX7_joinSet wsX3_join := goodIn_r _ [19, 11, 10, 20, 21, 22, 6, 23, 24, 25, 26, 27, 8, 9, 36, 37, 38, 39, 40, 41, 42, 43, 44] (by decide +kernel) (by decide +kernel)
set_option maxRecDepth 20000 in
theorem gX7_joinSet_X3_join : GoodIn wsX7_joinSet (wsV RX7 237 RX3 yX3_join wsX3_join) := goodIn_app (goodIn_of _ (by decide +kernel)) ggX7_joinSet_X3_join
theorem dX7_joinSet_0 : decode cX7_joinSet 0 = .ok (.aload_n 0, 1) := by decide +kernel
theorem dX7_joinSet_1 : decode cX7_joinSet 1 = .ok (.getfield 26, 3) := by decide +kernel
theorem dX7_joinSet_4 : decode cX7_joinSet 4 = .ok (.aload_n 0, 1) := by decide +kernel
theorem dX7_joinSet_5 : decode cX7_joinSet 5 = .ok (.getfield 10, 3) := by decide +kernel
theorem dX7_joinSet_8 : decode cX7_joinSet 8 = .ok (.getfield 205, 3) := by decide +kernel
theorem dX7_joinSet_11 : decode cX7_joinSet 11 = .ok (.invokevirtual 230, 3) := by decide +kernel
theorem dX7_joinSet_14 : decode cX7_joinSet 14 = .ok (.iconst 0, 1) := by decide +kernel
theorem dX7_joinSet_15 : decode cX7_joinSet 15 = .ok (.istore_n 3, 1) := by decide +kernel
theorem dX7_joinSet_16 : decode cX7_joinSet 16 = .ok (.iconst 0, 1) := by decide +kernel
theorem dX7_joinSet_17 : decode cX7_joinSet 17 = .ok (.istore 4, 2) := by decide +kernel
theorem dX7_joinSet_19 : decode cX7_joinSet 19 = .ok (.iload 4, 2) := by decide +kernel
theorem dX7_joinSet_21 : decode cX7_joinSet 21 = .ok (.aload_n 0, 1) := by decide +kernel
theorem dX7_joinSet_22 : decode cX7_joinSet 22 = .ok (.getfield 10, 3) := by decide +kernel
theorem dX7_joinSet_25 : decode cX7_joinSet 25 = .ok (.getfield 69, 3) := by decide +kernel
theorem dX7_joinSet_28 : decode cX7_joinSet 28 = .ok (.if_icmp .ge 39, 3) := by decide +kernel
theorem dX7_joinSet_31 : decode cX7_joinSet 31 = .ok (.lload_n 1, 1) := by decide +kernel
theorem dX7_joinSet_32 : decode cX7_joinSet 32 = .ok (.iload 4, 2) := by decide +kernel
theorem dX7_joinSet_34 : decode cX7_joinSet 34 = .ok (.invokestatic 233, 3) := by decide +kernel
theorem dX7_joinSet_37 : decode cX7_joinSet 37 = .ok (.ifCond .eq 24, 3) := by decide +kernel
theorem dX7_joinSet_40 : decode cX7_joinSet 40 = .ok (.aload_n 0, 1) := by decide +kernel
theorem dX7_joinSet_41 : decode cX7_joinSet 41 = .ok (.getfield 26, 3) := by decide +kernel
theorem dX7_joinSet_44 : decode cX7_joinSet 44 = .ok (.aload_n 0, 1) := by decide +kernel
theorem dX7_joinSet_45 : decode cX7_joinSet 45 = .ok (.getfield 10, 3) := by decide +kernel
theorem dX7_joinSet_48 : decode cX7_joinSet 48 = .ok (.iload 4, 2) := by decide +kernel
theorem dX7_joinSet_50 : decode cX7_joinSet 50 = .ok (.invokevirtual 237, 3) := by decide +kernel
theorem dX7_joinSet_53 : decode cX7_joinSet 53 = .ok (.lconst 0, 1) := by decide +kernel
theorem dX7_joinSet_54 : decode cX7_joinSet 54 = .ok (.lcmp, 1) := by decide +kernel
theorem dX7_joinSet_55 : decode cX7_joinSet 55 = .ok (.ifCond .eq 6, 3) := by decide +kernel
theorem dX7_joinSet_58 : decode cX7_joinSet 58 = .ok (.iinc 3 1, 3) := by decide +kernel
theorem dX7_joinSet_61 : decode cX7_joinSet 61 = .ok (.iinc 4 1, 3) := by decide +kernel
theorem dX7_joinSet_64 : decode cX7_joinSet 64 = .ok (.goto (-45), 3) := by decide +kernel
theorem dX7_joinSet_67 : decode cX7_joinSet 67 = .ok (.iload_n 3, 1) := by decide +kernel
theorem dX7_joinSet_68 : decode cX7_joinSet 68 = .ok (.ireturn, 1) := by decide +kernel
set_option maxRecDepth 20000 in
theorem ggX7_joinWhole_X7_joinSet : GoodIn wsX7_joinWhole wsX7_joinSet := goodIn_r _ [6, 7, 1, 8, 9, 10, 11, 12, 13, 14, 15, 16, 17, 18, 5, 19, 20, 21, 22, 23, 24, 25, 26, 27, 28, 29, 30, 31, 32, 33, 34, 35, 36, 37, 38, 39, 40, 41, 42, 43, 44, 45, 46, 47, 48] (by decide +kernel) (by decide +kernel)
set_option maxRecDepth 20000 in
theorem gX7_joinWhole_X7_joinSet : GoodIn wsX7_joinWhole (wsV RX7 114 RX7 yX7_joinSet wsX7_joinSet) := goodIn_app (goodIn_of _ (by decide +kernel)) ggX7_joinWhole_X7_joinSet
theorem dX7_joinWhole_0 : decode cX7_joinWhole 0 = .ok (.aload_n 0, 1) := by decide +kernel
theorem dX7_joinWhole_1 : decode cX7_joinWhole 1 = .ok (.lconst 1, 1) := by decide +kernel
theorem dX7_joinWhole_2 : decode cX7_joinWhole 2 = .ok (.aload_n 0, 1) := by decide +kernel
theorem dX7_joinWhole_3 : decode cX7_joinWhole 3 = .ok (.getfield 10, 3) := by decide +kernel
theorem dX7_joinWhole_6 : decode cX7_joinWhole 6 = .ok (.getfield 69, 3) := by decide +kernel
theorem dX7_joinWhole_9 : decode cX7_joinWhole 9 = .ok (.lshl, 1) := by decide +kernel
theorem dX7_joinWhole_10 : decode cX7_joinWhole 10 = .ok (.lconst 1, 1) := by decide +kernel
theorem dX7_joinWhole_11 : decode cX7_joinWhole 11 = .ok (.lsub, 1) := by decide +kernel
theorem dX7_joinWhole_12 : decode cX7_joinWhole 12 = .ok (.invokevirtual 114, 3) := by decide +kernel
theorem dX7_joinWhole_15 : decode cX7_joinWhole 15 = .ok (.ireturn, 1) := by decide +kernel
set_option maxRecDepth 20000 in
theorem ggX7_fillRings_X3_part : GoodIn wsX7_fillRings wsX3_part := goodIn_r _ [8, 9, 10, 11, 12, 38, 39, 40, 41] (by decide +kernel) (by decide +kernel)
set_option maxRecDepth 20000 in
theorem gX7_fillRings_X3_part : GoodIn wsX7_fillRings (wsV RX7 230 RX3 yX3_part wsX3_part) := goodIn_app (goodIn_of _ (by decide +kernel)) ggX7_fillRings_X3_part
set_option maxRecDepth 20000 in
theorem ggX7_fillRings_X3_join : GoodIn wsX7_fillRings wsX3_join := goodIn_r _ [16, 12, 11, 17, 18, 19, 7, 20, 21, 22, 23, 24, 9, 10, 33, 34, 35, 36, 37, 38, 39, 40, 41] (by decide +kernel) (by decide +kernel)
set_option maxRecDepth 20000 in
theorem gX7_fillRings_X3_join : GoodIn wsX7_fillRings (wsV RX7 237 RX3 yX3_join wsX3_join) := goodIn_app (goodIn_of _ (by decide +kernel)) ggX7_fillRings_X3_join
theorem dX7_fillRings_0 : decode cX7_fillRings 0 = .ok (.aload_n 0, 1) := by decide +kernel
theorem dX7_fillRings_1 : decode cX7_fillRings 1 = .ok (.getfield 26, 3) := by decide +kernel
theorem dX7_fillRings_4 : decode cX7_fillRings 4 = .ok (.aload_n 0, 1) := by decide +kernel
theorem dX7_fillRings_5 : decode cX7_fillRings 5 = .ok (.getfield 10, 3) := by decide +kernel
theorem dX7_fillRings_8 : decode cX7_fillRings 8 = .ok (.getfield 205, 3) := by decide +kernel
theorem dX7_fillRings_11 : decode cX7_fillRings 11 = .ok (.invokevirtual 230, 3) := by decide +kernel
theorem dX7_fillRings_14 : decode cX7_fillRings 14 = .ok (.iconst 0, 1) := by decide +kernel
theorem dX7_fillRings_15 : decode cX7_fillRings 15 = .ok (.istore_n 1, 1) := by decide +kernel
theorem dX7_fillRings_16 : decode cX7_fillRings 16 = .ok (.iconst 0, 1) := by decide +kernel
theorem dX7_fillRings_17 : decode cX7_fillRings 17 = .ok (.istore_n 2, 1) := by decide +kernel
theorem dX7_fillRings_18 : decode cX7_fillRings 18 = .ok (.iload_n 2, 1) := by decide +kernel
theorem dX7_fillRings_19 : decode cX7_fillRings 19 = .ok (.aload_n 0, 1) := by decide +kernel
theorem dX7_fillRings_20 : decode cX7_fillRings 20 = .ok (.getfield 10, 3) := by decide +kernel
theorem dX7_fillRings_23 : decode cX7_fillRings 23 = .ok (.getfield 69, 3) := by decide +kernel
theorem dX7_fillRings_26 : decode cX7_fillRings 26 = .ok (.if_icmp .ge 44, 3) := by decide +kernel
theorem dX7_fillRings_29 : decode cX7_fillRings 29 = .ok (.aload_n 0, 1) := by decide +kernel
theorem dX7_fillRings_30 : decode cX7_fillRings 30 = .ok (.getfield 26, 3) := by decide +kernel
theorem dX7_fillRings_33 : decode cX7_fillRings 33 = .ok (.aload_n 0, 1) := by decide +kernel
theorem dX7_fillRings_34 : decode cX7_fillRings 34 = .ok (.getfield 10, 3) := by decide +kernel
theorem dX7_fillRings_37 : decode cX7_fillRings 37 = .ok (.iload_n 2, 1) := by decide +kernel
theorem dX7_fillRings_38 : decode cX7_fillRings 38 = .ok (.invokevirtual 237, 3) := by decide +kernel
theorem dX7_fillRings_41 : decode cX7_fillRings 41 = .ok (.lstore_n 3, 1) := by decide +kernel
theorem dX7_fillRings_42 : decode cX7_fillRings 42 = .ok (.lload_n 3, 1) := by decide +kernel
theorem dX7_fillRings_43 : decode cX7_fillRings 43 = .ok (.lconst 0, 1) := by decide +kernel
theorem dX7_fillRings_44 : decode cX7_fillRings 44 = .ok (.lcmp, 1) := by decide +kernel
theorem dX7_fillRings_45 : decode cX7_fillRings 45 = .ok (.ifCond .eq 19, 3) := by decide +kernel
theorem dX7_fillRings_48 : decode cX7_fillRings 48 = .ok (.iload_n 1, 1) := by decide +kernel
theorem dX7_fillRings_49 : decode cX7_fillRings 49 = .ok (.bipush 14, 2) := by decide +kernel
theorem dX7_fillRings_51 : decode cX7_fillRings 51 = .ok (.if_icmp .ge 13, 3) := by decide +kernel
theorem dX7_fillRings_54 : decode cX7_fillRings 54 = .ok (.aload_n 0, 1) := by decide +kernel
theorem dX7_fillRings_55 : decode cX7_fillRings 55 = .ok (.getfield 58, 3) := by decide +kernel
theorem dX7_fillRings_58 : decode cX7_fillRings 58 = .ok (.iload_n 1, 1) := by decide +kernel
theorem dX7_fillRings_59 : decode cX7_fillRings 59 = .ok (.lload_n 3, 1) := by decide +kernel
theorem dX7_fillRings_60 : decode cX7_fillRings 60 = .ok (.lastore, 1) := by decide +kernel
theorem dX7_fillRings_61 : decode cX7_fillRings 61 = .ok (.iinc 1 1, 3) := by decide +kernel
theorem dX7_fillRings_64 : decode cX7_fillRings 64 = .ok (.iinc 2 1, 3) := by decide +kernel
theorem dX7_fillRings_67 : decode cX7_fillRings 67 = .ok (.goto (-49), 3) := by decide +kernel
theorem dX7_fillRings_70 : decode cX7_fillRings 70 = .ok (.iload_n 1, 1) := by decide +kernel
theorem dX7_fillRings_71 : decode cX7_fillRings 71 = .ok (.ireturn, 1) := by decide +kernel
set_option maxRecDepth 20000 in
theorem ggX7_weightOfLightestJoins_X7_lightestJoin : GoodIn wsX7_weightOfLightestJoins wsX7_lightestJoin := goodIn_r _ [7, 1, 2, 8, 9, 10, 11, 12, 13, 26, 27, 28, 29, 30, 31, 32, 33, 34, 35, 36, 37, 38, 39, 40, 41, 42] (by decide +kernel) (by decide +kernel)
set_option maxRecDepth 20000 in
theorem gX7_weightOfLightestJoins_X7_lightestJoin : GoodIn wsX7_weightOfLightestJoins (wsV RX7 241 RX7 yX7_lightestJoin wsX7_lightestJoin) := goodIn_app (goodIn_of _ (by decide +kernel)) ggX7_weightOfLightestJoins_X7_lightestJoin
set_option maxRecDepth 20000 in
theorem ggX7_weightOfLightestJoins_X3_join : GoodIn wsX7_weightOfLightestJoins wsX3_join := goodIn_r _ [17, 18, 13, 19, 9, 10, 11, 12, 20, 21, 22, 23, 24, 25, 34, 35, 36, 37, 38, 39, 40, 41, 42] (by decide +kernel) (by decide +kernel)
set_option maxRecDepth 20000 in
theorem gX7_weightOfLightestJoins_X3_join : GoodIn wsX7_weightOfLightestJoins (wsV RX7 237 RX3 yX3_join wsX3_join) := goodIn_app (goodIn_of _ (by decide +kernel)) ggX7_weightOfLightestJoins_X3_join
theorem dX7_weightOfLightestJoins_0 : decode cX7_weightOfLightestJoins 0 = .ok (.lconst 0, 1) := by decide +kernel
theorem dX7_weightOfLightestJoins_1 : decode cX7_weightOfLightestJoins 1 = .ok (.lstore_n 1, 1) := by decide +kernel
theorem dX7_weightOfLightestJoins_2 : decode cX7_weightOfLightestJoins 2 = .ok (.iconst 1, 1) := by decide +kernel
theorem dX7_weightOfLightestJoins_3 : decode cX7_weightOfLightestJoins 3 = .ok (.istore_n 3, 1) := by decide +kernel
theorem dX7_weightOfLightestJoins_4 : decode cX7_weightOfLightestJoins 4 = .ok (.iload_n 3, 1) := by decide +kernel
theorem dX7_weightOfLightestJoins_5 : decode cX7_weightOfLightestJoins 5 = .ok (.aload_n 0, 1) := by decide +kernel
theorem dX7_weightOfLightestJoins_6 : decode cX7_weightOfLightestJoins 6 = .ok (.getfield 10, 3) := by decide +kernel
theorem dX7_weightOfLightestJoins_9 : decode cX7_weightOfLightestJoins 9 = .ok (.getfield 205, 3) := by decide +kernel
theorem dX7_weightOfLightestJoins_12 : decode cX7_weightOfLightestJoins 12 = .ok (.if_icmp .ge 51, 3) := by decide +kernel
theorem dX7_weightOfLightestJoins_15 : decode cX7_weightOfLightestJoins 15 = .ok (.aload_n 0, 1) := by decide +kernel
theorem dX7_weightOfLightestJoins_16 : decode cX7_weightOfLightestJoins 16 = .ok (.invokevirtual 241, 3) := by decide +kernel
theorem dX7_weightOfLightestJoins_19 : decode cX7_weightOfLightestJoins 19 = .ok (.istore 4, 2) := by decide +kernel
theorem dX7_weightOfLightestJoins_21 : decode cX7_weightOfLightestJoins 21 = .ok (.iload 4, 2) := by decide +kernel
theorem dX7_weightOfLightestJoins_23 : decode cX7_weightOfLightestJoins 23 = .ok (.iconst (-1), 1) := by decide +kernel
theorem dX7_weightOfLightestJoins_24 : decode cX7_weightOfLightestJoins 24 = .ok (.if_icmp .ne 5, 3) := by decide +kernel
theorem dX7_weightOfLightestJoins_27 : decode cX7_weightOfLightestJoins 27 = .ok (.lload_n 1, 1) := by decide +kernel
theorem dX7_weightOfLightestJoins_28 : decode cX7_weightOfLightestJoins 28 = .ok (.lreturn, 1) := by decide +kernel
theorem dX7_weightOfLightestJoins_29 : decode cX7_weightOfLightestJoins 29 = .ok (.aload_n 0, 1) := by decide +kernel
theorem dX7_weightOfLightestJoins_30 : decode cX7_weightOfLightestJoins 30 = .ok (.getfield 26, 3) := by decide +kernel
theorem dX7_weightOfLightestJoins_33 : decode cX7_weightOfLightestJoins 33 = .ok (.aload_n 0, 1) := by decide +kernel
theorem dX7_weightOfLightestJoins_34 : decode cX7_weightOfLightestJoins 34 = .ok (.getfield 10, 3) := by decide +kernel
theorem dX7_weightOfLightestJoins_37 : decode cX7_weightOfLightestJoins 37 = .ok (.iload 4, 2) := by decide +kernel
theorem dX7_weightOfLightestJoins_39 : decode cX7_weightOfLightestJoins 39 = .ok (.invokevirtual 237, 3) := by decide +kernel
theorem dX7_weightOfLightestJoins_42 : decode cX7_weightOfLightestJoins 42 = .ok (.pop2, 1) := by decide +kernel
theorem dX7_weightOfLightestJoins_43 : decode cX7_weightOfLightestJoins 43 = .ok (.lload_n 1, 1) := by decide +kernel
theorem dX7_weightOfLightestJoins_44 : decode cX7_weightOfLightestJoins 44 = .ok (.aload_n 0, 1) := by decide +kernel
theorem dX7_weightOfLightestJoins_45 : decode cX7_weightOfLightestJoins 45 = .ok (.getfield 10, 3) := by decide +kernel
theorem dX7_weightOfLightestJoins_48 : decode cX7_weightOfLightestJoins 48 = .ok (.getfield 158, 3) := by decide +kernel
theorem dX7_weightOfLightestJoins_51 : decode cX7_weightOfLightestJoins 51 = .ok (.iload 4, 2) := by decide +kernel
theorem dX7_weightOfLightestJoins_53 : decode cX7_weightOfLightestJoins 53 = .ok (.iaload, 1) := by decide +kernel
theorem dX7_weightOfLightestJoins_54 : decode cX7_weightOfLightestJoins 54 = .ok (.i2l, 1) := by decide +kernel
theorem dX7_weightOfLightestJoins_55 : decode cX7_weightOfLightestJoins 55 = .ok (.ladd, 1) := by decide +kernel
theorem dX7_weightOfLightestJoins_56 : decode cX7_weightOfLightestJoins 56 = .ok (.lstore_n 1, 1) := by decide +kernel
theorem dX7_weightOfLightestJoins_57 : decode cX7_weightOfLightestJoins 57 = .ok (.iinc 3 1, 3) := by decide +kernel
theorem dX7_weightOfLightestJoins_60 : decode cX7_weightOfLightestJoins 60 = .ok (.goto (-56), 3) := by decide +kernel
theorem dX7_weightOfLightestJoins_63 : decode cX7_weightOfLightestJoins 63 = .ok (.lload_n 1, 1) := by decide +kernel
theorem dX7_weightOfLightestJoins_64 : decode cX7_weightOfLightestJoins 64 = .ok (.lreturn, 1) := by decide +kernel
set_option maxRecDepth 20000 in
theorem ggX7_lightestJoin_X3_together : GoodIn wsX7_lightestJoin wsX3_together := goodIn_r _ [7, 8, 22, 23, 24, 25] (by decide +kernel) (by decide +kernel)
set_option maxRecDepth 20000 in
theorem gX7_lightestJoin_X3_together : GoodIn wsX7_lightestJoin (wsV RX7 95 RX3 yX3_together wsX3_together) := goodIn_app (goodIn_of _ (by decide +kernel)) ggX7_lightestJoin_X3_together
theorem dX7_lightestJoin_0 : decode cX7_lightestJoin 0 = .ok (.iconst (-1), 1) := by decide +kernel
theorem dX7_lightestJoin_1 : decode cX7_lightestJoin 1 = .ok (.istore_n 1, 1) := by decide +kernel
theorem dX7_lightestJoin_2 : decode cX7_lightestJoin 2 = .ok (.iconst 0, 1) := by decide +kernel
theorem dX7_lightestJoin_3 : decode cX7_lightestJoin 3 = .ok (.istore_n 2, 1) := by decide +kernel
theorem dX7_lightestJoin_4 : decode cX7_lightestJoin 4 = .ok (.iload_n 2, 1) := by decide +kernel
theorem dX7_lightestJoin_5 : decode cX7_lightestJoin 5 = .ok (.aload_n 0, 1) := by decide +kernel
theorem dX7_lightestJoin_6 : decode cX7_lightestJoin 6 = .ok (.getfield 10, 3) := by decide +kernel
theorem dX7_lightestJoin_9 : decode cX7_lightestJoin 9 = .ok (.getfield 69, 3) := by decide +kernel
theorem dX7_lightestJoin_12 : decode cX7_lightestJoin 12 = .ok (.if_icmp .ge 65, 3) := by decide +kernel
theorem dX7_lightestJoin_15 : decode cX7_lightestJoin 15 = .ok (.aload_n 0, 1) := by decide +kernel
theorem dX7_lightestJoin_16 : decode cX7_lightestJoin 16 = .ok (.getfield 26, 3) := by decide +kernel
theorem dX7_lightestJoin_19 : decode cX7_lightestJoin 19 = .ok (.aload_n 0, 1) := by decide +kernel
theorem dX7_lightestJoin_20 : decode cX7_lightestJoin 20 = .ok (.getfield 10, 3) := by decide +kernel
theorem dX7_lightestJoin_23 : decode cX7_lightestJoin 23 = .ok (.getfield 141, 3) := by decide +kernel
theorem dX7_lightestJoin_26 : decode cX7_lightestJoin 26 = .ok (.iload_n 2, 1) := by decide +kernel
theorem dX7_lightestJoin_27 : decode cX7_lightestJoin 27 = .ok (.iaload, 1) := by decide +kernel
theorem dX7_lightestJoin_28 : decode cX7_lightestJoin 28 = .ok (.aload_n 0, 1) := by decide +kernel
theorem dX7_lightestJoin_29 : decode cX7_lightestJoin 29 = .ok (.getfield 10, 3) := by decide +kernel
theorem dX7_lightestJoin_32 : decode cX7_lightestJoin 32 = .ok (.getfield 149, 3) := by decide +kernel
theorem dX7_lightestJoin_35 : decode cX7_lightestJoin 35 = .ok (.iload_n 2, 1) := by decide +kernel
theorem dX7_lightestJoin_36 : decode cX7_lightestJoin 36 = .ok (.iaload, 1) := by decide +kernel
theorem dX7_lightestJoin_37 : decode cX7_lightestJoin 37 = .ok (.invokevirtual 95, 3) := by decide +kernel
theorem dX7_lightestJoin_40 : decode cX7_lightestJoin 40 = .ok (.ifCond .ne 31, 3) := by decide +kernel
theorem dX7_lightestJoin_43 : decode cX7_lightestJoin 43 = .ok (.iload_n 1, 1) := by decide +kernel
theorem dX7_lightestJoin_44 : decode cX7_lightestJoin 44 = .ok (.iconst (-1), 1) := by decide +kernel
theorem dX7_lightestJoin_45 : decode cX7_lightestJoin 45 = .ok (.if_icmp .eq 24, 3) := by decide +kernel
theorem dX7_lightestJoin_48 : decode cX7_lightestJoin 48 = .ok (.aload_n 0, 1) := by decide +kernel
theorem dX7_lightestJoin_49 : decode cX7_lightestJoin 49 = .ok (.getfield 10, 3) := by decide +kernel
theorem dX7_lightestJoin_52 : decode cX7_lightestJoin 52 = .ok (.getfield 158, 3) := by decide +kernel
theorem dX7_lightestJoin_55 : decode cX7_lightestJoin 55 = .ok (.iload_n 2, 1) := by decide +kernel
theorem dX7_lightestJoin_56 : decode cX7_lightestJoin 56 = .ok (.iaload, 1) := by decide +kernel
theorem dX7_lightestJoin_57 : decode cX7_lightestJoin 57 = .ok (.aload_n 0, 1) := by decide +kernel
theorem dX7_lightestJoin_58 : decode cX7_lightestJoin 58 = .ok (.getfield 10, 3) := by decide +kernel
theorem dX7_lightestJoin_61 : decode cX7_lightestJoin 61 = .ok (.getfield 158, 3) := by decide +kernel
theorem dX7_lightestJoin_64 : decode cX7_lightestJoin 64 = .ok (.iload_n 1, 1) := by decide +kernel
theorem dX7_lightestJoin_65 : decode cX7_lightestJoin 65 = .ok (.iaload, 1) := by decide +kernel
theorem dX7_lightestJoin_66 : decode cX7_lightestJoin 66 = .ok (.if_icmp .ge 5, 3) := by decide +kernel
theorem dX7_lightestJoin_69 : decode cX7_lightestJoin 69 = .ok (.iload_n 2, 1) := by decide +kernel
theorem dX7_lightestJoin_70 : decode cX7_lightestJoin 70 = .ok (.istore_n 1, 1) := by decide +kernel
theorem dX7_lightestJoin_71 : decode cX7_lightestJoin 71 = .ok (.iinc 2 1, 3) := by decide +kernel
theorem dX7_lightestJoin_74 : decode cX7_lightestJoin 74 = .ok (.goto (-70), 3) := by decide +kernel
theorem dX7_lightestJoin_77 : decode cX7_lightestJoin 77 = .ok (.iload_n 1, 1) := by decide +kernel
theorem dX7_lightestJoin_78 : decode cX7_lightestJoin 78 = .ok (.ireturn, 1) := by decide +kernel
set_option maxRecDepth 20000 in
theorem ggX7_countGroups_X7_joinWhole : GoodIn wsX7_countGroups wsX7_joinWhole := goodIn_r _ [6, 7, 8, 9, 10, 5, 11, 1, 12, 13, 14, 15, 16, 17, 18, 19, 20, 21, 22, 23, 24, 25, 26, 27, 28, 29, 30, 31, 32, 33, 34, 35, 36, 37, 38, 39, 40, 41, 42, 43, 48, 49, 50, 51, 52, 44, 45, 46, 47] (by decide +kernel) (by decide +kernel)
set_option maxRecDepth 20000 in
theorem gX7_countGroups_X7_joinWhole : GoodIn wsX7_countGroups (wsV RX7 91 RX7 yX7_joinWhole wsX7_joinWhole) := goodIn_app (goodIn_of _ (by decide +kernel)) ggX7_countGroups_X7_joinWhole
theorem dX7_countGroups_0 : decode cX7_countGroups 0 = .ok (.aload_n 0, 1) := by decide +kernel
theorem dX7_countGroups_1 : decode cX7_countGroups 1 = .ok (.invokevirtual 91, 3) := by decide +kernel
theorem dX7_countGroups_4 : decode cX7_countGroups 4 = .ok (.pop, 1) := by decide +kernel
theorem dX7_countGroups_5 : decode cX7_countGroups 5 = .ok (.aload_n 0, 1) := by decide +kernel
theorem dX7_countGroups_6 : decode cX7_countGroups 6 = .ok (.getfield 26, 3) := by decide +kernel
theorem dX7_countGroups_9 : decode cX7_countGroups 9 = .ok (.getfield 244, 3) := by decide +kernel
theorem dX7_countGroups_12 : decode cX7_countGroups 12 = .ok (.ireturn, 1) := by decide +kernel
set_option maxRecDepth 20000 in
theorem ggX7_countEdgesInNoCycle_X7_fillRings : GoodIn wsX7_countEdgesInNoCycle wsX7_fillRings := goodIn_r _ [7, 8, 2, 1, 9, 10, 11, 12, 13, 14, 15, 16, 17, 18, 19, 20, 21, 22, 23, 24, 25, 26, 27, 28, 29, 37, 38, 39, 40, 41, 42, 43, 44, 45, 46, 47, 48, 49, 50, 51, 52, 53] (by decide +kernel) (by decide +kernel)
set_option maxRecDepth 20000 in
theorem gX7_countEdgesInNoCycle_X7_fillRings : GoodIn wsX7_countEdgesInNoCycle (wsV RX7 176 RX7 yX7_fillRings wsX7_fillRings) := goodIn_app (goodIn_of _ (by decide +kernel)) ggX7_countEdgesInNoCycle_X7_fillRings
set_option maxRecDepth 20000 in
theorem ggX7_countEdgesInNoCycle_J13_bitCount_95d88 : GoodIn wsX7_countEdgesInNoCycle wsJ13_bitCount_95d88 := goodIn_r _ [33, 34, 35, 36] (by decide +kernel) (by decide +kernel)
set_option maxRecDepth 20000 in
theorem gX7_countEdgesInNoCycle_J13_bitCount_95d88 : GoodIn wsX7_countEdgesInNoCycle (va_wsS RX7 246 yJ13_bitCount_95d88 wsJ13_bitCount_95d88) := goodIn_app (goodIn_of _ (by decide +kernel)) ggX7_countEdgesInNoCycle_J13_bitCount_95d88
theorem dX7_countEdgesInNoCycle_0 : decode cX7_countEdgesInNoCycle 0 = .ok (.aload_n 0, 1) := by decide +kernel
theorem dX7_countEdgesInNoCycle_1 : decode cX7_countEdgesInNoCycle 1 = .ok (.invokevirtual 176, 3) := by decide +kernel
theorem dX7_countEdgesInNoCycle_4 : decode cX7_countEdgesInNoCycle 4 = .ok (.istore_n 1, 1) := by decide +kernel
theorem dX7_countEdgesInNoCycle_5 : decode cX7_countEdgesInNoCycle 5 = .ok (.lconst 0, 1) := by decide +kernel
theorem dX7_countEdgesInNoCycle_6 : decode cX7_countEdgesInNoCycle 6 = .ok (.lstore_n 2, 1) := by decide +kernel
theorem dX7_countEdgesInNoCycle_7 : decode cX7_countEdgesInNoCycle 7 = .ok (.iconst 0, 1) := by decide +kernel
theorem dX7_countEdgesInNoCycle_8 : decode cX7_countEdgesInNoCycle 8 = .ok (.istore 4, 2) := by decide +kernel
theorem dX7_countEdgesInNoCycle_10 : decode cX7_countEdgesInNoCycle 10 = .ok (.iload 4, 2) := by decide +kernel
theorem dX7_countEdgesInNoCycle_12 : decode cX7_countEdgesInNoCycle 12 = .ok (.iload_n 1, 1) := by decide +kernel
theorem dX7_countEdgesInNoCycle_13 : decode cX7_countEdgesInNoCycle 13 = .ok (.if_icmp .ge 19, 3) := by decide +kernel
theorem dX7_countEdgesInNoCycle_16 : decode cX7_countEdgesInNoCycle 16 = .ok (.lload_n 2, 1) := by decide +kernel
theorem dX7_countEdgesInNoCycle_17 : decode cX7_countEdgesInNoCycle 17 = .ok (.aload_n 0, 1) := by decide +kernel
theorem dX7_countEdgesInNoCycle_18 : decode cX7_countEdgesInNoCycle 18 = .ok (.getfield 58, 3) := by decide +kernel
theorem dX7_countEdgesInNoCycle_21 : decode cX7_countEdgesInNoCycle 21 = .ok (.iload 4, 2) := by decide +kernel
theorem dX7_countEdgesInNoCycle_23 : decode cX7_countEdgesInNoCycle 23 = .ok (.laload, 1) := by decide +kernel
theorem dX7_countEdgesInNoCycle_24 : decode cX7_countEdgesInNoCycle 24 = .ok (.lor, 1) := by decide +kernel
theorem dX7_countEdgesInNoCycle_25 : decode cX7_countEdgesInNoCycle 25 = .ok (.lstore_n 2, 1) := by decide +kernel
theorem dX7_countEdgesInNoCycle_26 : decode cX7_countEdgesInNoCycle 26 = .ok (.iinc 4 1, 3) := by decide +kernel
theorem dX7_countEdgesInNoCycle_29 : decode cX7_countEdgesInNoCycle 29 = .ok (.goto (-19), 3) := by decide +kernel
theorem dX7_countEdgesInNoCycle_32 : decode cX7_countEdgesInNoCycle 32 = .ok (.aload_n 0, 1) := by decide +kernel
theorem dX7_countEdgesInNoCycle_33 : decode cX7_countEdgesInNoCycle 33 = .ok (.getfield 10, 3) := by decide +kernel
theorem dX7_countEdgesInNoCycle_36 : decode cX7_countEdgesInNoCycle 36 = .ok (.getfield 69, 3) := by decide +kernel
theorem dX7_countEdgesInNoCycle_39 : decode cX7_countEdgesInNoCycle 39 = .ok (.lload_n 2, 1) := by decide +kernel
theorem dX7_countEdgesInNoCycle_40 : decode cX7_countEdgesInNoCycle 40 = .ok (.invokestatic 246, 3) := by decide +kernel
theorem dX7_countEdgesInNoCycle_43 : decode cX7_countEdgesInNoCycle 43 = .ok (.isub, 1) := by decide +kernel
theorem dX7_countEdgesInNoCycle_44 : decode cX7_countEdgesInNoCycle 44 = .ok (.ireturn, 1) := by decide +kernel
set_option maxRecDepth 20000 in
theorem ggX7_hasOddCycle_X7_fillRings : GoodIn wsX7_hasOddCycle wsX7_fillRings := goodIn_r _ [6, 7, 8, 1, 9, 10, 11, 12, 13, 14, 15, 16, 17, 18, 19, 20, 21, 22, 23, 24, 25, 26, 27, 28, 29, 37, 38, 39, 40, 41, 42, 43, 44, 45, 46, 47, 48, 49, 50, 51, 52, 53] (by decide +kernel) (by decide +kernel)
set_option maxRecDepth 20000 in
theorem gX7_hasOddCycle_X7_fillRings : GoodIn wsX7_hasOddCycle (wsV RX7 176 RX7 yX7_fillRings wsX7_fillRings) := goodIn_app (goodIn_of _ (by decide +kernel)) ggX7_hasOddCycle_X7_fillRings
set_option maxRecDepth 20000 in
theorem ggX7_hasOddCycle_J13_bitCount_95d88 : GoodIn wsX7_hasOddCycle wsJ13_bitCount_95d88 := goodIn_r _ [33, 34, 35, 36] (by decide +kernel) (by decide +kernel)
set_option maxRecDepth 20000 in
theorem gX7_hasOddCycle_J13_bitCount_95d88 : GoodIn wsX7_hasOddCycle (va_wsS RX7 246 yJ13_bitCount_95d88 wsJ13_bitCount_95d88) := goodIn_app (goodIn_of _ (by decide +kernel)) ggX7_hasOddCycle_J13_bitCount_95d88

set_option maxRecDepth 20000 in
theorem ggX11_init_X4_init : GoodIn wsX11_init wsX4_init := goodIn_r _ [27, 28, 2, 3, 29, 30, 31, 32, 33, 34, 35, 36, 70, 71, 72, 73, 74, 75, 76, 77, 78] (by decide +kernel) (by decide +kernel)
set_option maxRecDepth 20000 in
theorem gX11_init_X4_init : GoodIn wsX11_init (wsX4_init) := ggX11_init_X4_init
set_option maxRecDepth 20000 in
theorem ggX11_init_X6_init : GoodIn wsX11_init wsX6_init := goodIn_r _ [39, 40, 2, 3, 41, 5, 6, 42, 29, 43, 44, 26, 27, 28, 30, 31, 32, 33, 34, 35, 36, 70, 71, 72, 73, 74, 75, 76, 77, 78, 87, 88, 89, 90, 91, 92, 93, 94, 95] (by decide +kernel) (by decide +kernel)
set_option maxRecDepth 20000 in
theorem gX11_init_X6_init : GoodIn wsX11_init (wsX6_init) := ggX11_init_X6_init
set_option maxRecDepth 20000 in
theorem ggX11_init_X7_init : GoodIn wsX11_init wsX7_init := goodIn_r _ [47, 48, 2, 3, 29, 49, 50, 51, 52, 53, 54, 55, 96, 97, 98, 99, 100, 101, 102, 103, 104, 105, 106, 107, 108, 109] (by decide +kernel) (by decide +kernel)
set_option maxRecDepth 20000 in
theorem gX11_init_X7_init : GoodIn wsX11_init (wsX7_init) := ggX11_init_X7_init
set_option maxRecDepth 20000 in
theorem ggX11_init_X3_init : GoodIn wsX11_init wsX3_init := goodIn_r _ [58, 59, 2, 3, 29, 60, 61, 62, 63, 110, 111, 112, 113] (by decide +kernel) (by decide +kernel)
set_option maxRecDepth 20000 in
theorem gX11_init_X3_init : GoodIn wsX11_init (wsX3_init) := ggX11_init_X3_init
set_option maxRecDepth 20000 in
theorem ggX11_init_X8_init : GoodIn wsX11_init wsX8_init := goodIn_r _ [66, 67, 2, 3, 29, 68, 69, 114, 115, 116, 117] (by decide +kernel) (by decide +kernel)
set_option maxRecDepth 20000 in
theorem gX11_init_X8_init : GoodIn wsX11_init (wsX8_init) := ggX11_init_X8_init
theorem dX11_init_0 : decode cX11_init 0 = .ok (.aload_n 0, 1) := by decide +kernel
theorem dX11_init_1 : decode cX11_init 1 = .ok (.invokespecial 1, 3) := by decide +kernel
theorem dX11_init_4 : decode cX11_init 4 = .ok (.aload_n 0, 1) := by decide +kernel
theorem dX11_init_5 : decode cX11_init 5 = .ok (.new 7, 3) := by decide +kernel
theorem dX11_init_8 : decode cX11_init 8 = .ok (.dup, 1) := by decide +kernel
theorem dX11_init_9 : decode cX11_init 9 = .ok (.invokespecial 9, 3) := by decide +kernel
theorem dX11_init_12 : decode cX11_init 12 = .ok (.putfield 10, 3) := by decide +kernel
theorem dX11_init_15 : decode cX11_init 15 = .ok (.aload_n 0, 1) := by decide +kernel
theorem dX11_init_16 : decode cX11_init 16 = .ok (.new 7, 3) := by decide +kernel
theorem dX11_init_19 : decode cX11_init 19 = .ok (.dup, 1) := by decide +kernel
theorem dX11_init_20 : decode cX11_init 20 = .ok (.invokespecial 9, 3) := by decide +kernel
theorem dX11_init_23 : decode cX11_init 23 = .ok (.putfield 16, 3) := by decide +kernel
theorem dX11_init_26 : decode cX11_init 26 = .ok (.aload_n 0, 1) := by decide +kernel
theorem dX11_init_27 : decode cX11_init 27 = .ok (.new 19, 3) := by decide +kernel
theorem dX11_init_30 : decode cX11_init 30 = .ok (.dup, 1) := by decide +kernel
theorem dX11_init_31 : decode cX11_init 31 = .ok (.invokespecial 21, 3) := by decide +kernel
theorem dX11_init_34 : decode cX11_init 34 = .ok (.putfield 22, 3) := by decide +kernel
theorem dX11_init_37 : decode cX11_init 37 = .ok (.aload_n 0, 1) := by decide +kernel
theorem dX11_init_38 : decode cX11_init 38 = .ok (.new 26, 3) := by decide +kernel
theorem dX11_init_41 : decode cX11_init 41 = .ok (.dup, 1) := by decide +kernel
theorem dX11_init_42 : decode cX11_init 42 = .ok (.aload_n 0, 1) := by decide +kernel
theorem dX11_init_43 : decode cX11_init 43 = .ok (.getfield 10, 3) := by decide +kernel
theorem dX11_init_46 : decode cX11_init 46 = .ok (.invokespecial 28, 3) := by decide +kernel
theorem dX11_init_49 : decode cX11_init 49 = .ok (.putfield 31, 3) := by decide +kernel
theorem dX11_init_52 : decode cX11_init 52 = .ok (.aload_n 0, 1) := by decide +kernel
theorem dX11_init_53 : decode cX11_init 53 = .ok (.new 35, 3) := by decide +kernel
theorem dX11_init_56 : decode cX11_init 56 = .ok (.dup, 1) := by decide +kernel
theorem dX11_init_57 : decode cX11_init 57 = .ok (.aload_n 0, 1) := by decide +kernel
theorem dX11_init_58 : decode cX11_init 58 = .ok (.getfield 10, 3) := by decide +kernel
theorem dX11_init_61 : decode cX11_init 61 = .ok (.invokespecial 37, 3) := by decide +kernel
theorem dX11_init_64 : decode cX11_init 64 = .ok (.putfield 38, 3) := by decide +kernel
theorem dX11_init_67 : decode cX11_init 67 = .ok (.aload_n 0, 1) := by decide +kernel
theorem dX11_init_68 : decode cX11_init 68 = .ok (.bipush 8, 2) := by decide +kernel
theorem dX11_init_70 : decode cX11_init 70 = .ok (.anewarray 42, 3) := by decide +kernel
theorem dX11_init_73 : decode cX11_init 73 = .ok (.putfield 44, 3) := by decide +kernel
theorem dX11_init_76 : decode cX11_init 76 = .ok (.iconst 0, 1) := by decide +kernel
theorem dX11_init_77 : decode cX11_init 77 = .ok (.istore_n 1, 1) := by decide +kernel
theorem dX11_init_78 : decode cX11_init 78 = .ok (.iload_n 1, 1) := by decide +kernel
theorem dX11_init_79 : decode cX11_init 79 = .ok (.bipush 8, 2) := by decide +kernel
theorem dX11_init_81 : decode cX11_init 81 = .ok (.if_icmp .ge 22, 3) := by decide +kernel
theorem dX11_init_84 : decode cX11_init 84 = .ok (.aload_n 0, 1) := by decide +kernel
theorem dX11_init_85 : decode cX11_init 85 = .ok (.getfield 44, 3) := by decide +kernel
theorem dX11_init_88 : decode cX11_init 88 = .ok (.iload_n 1, 1) := by decide +kernel
theorem dX11_init_89 : decode cX11_init 89 = .ok (.new 42, 3) := by decide +kernel
theorem dX11_init_92 : decode cX11_init 92 = .ok (.dup, 1) := by decide +kernel
theorem dX11_init_93 : decode cX11_init 93 = .ok (.invokespecial 48, 3) := by decide +kernel
theorem dX11_init_96 : decode cX11_init 96 = .ok (.aastore, 1) := by decide +kernel
theorem dX11_init_97 : decode cX11_init 97 = .ok (.iinc 1 1, 3) := by decide +kernel
theorem dX11_init_100 : decode cX11_init 100 = .ok (.goto (-22), 3) := by decide +kernel
theorem dX11_init_103 : decode cX11_init 103 = .ok (.return_, 1) := by decide +kernel
set_option maxRecDepth 20000 in
theorem ggX11_market_X11_isShelf : GoodIn wsX11_market wsX11_isShelf := goodIn_r _ [9] (by decide +kernel) (by decide +kernel)
set_option maxRecDepth 20000 in
theorem gX11_market_X11_isShelf : GoodIn wsX11_market (va_wsS RX11 49 yX11_isShelf wsX11_isShelf) := goodIn_app (goodIn_of _ (by decide +kernel)) ggX11_market_X11_isShelf
set_option maxRecDepth 20000 in
theorem ggX11_market_X8_isBare : GoodIn wsX11_market wsX8_isBare := goodIn_r _ [14, 15, 16, 136, 137, 138, 139] (by decide +kernel) (by decide +kernel)
set_option maxRecDepth 20000 in
theorem gX11_market_X8_isBare : GoodIn wsX11_market (wsV RX11 53 RX8 yX8_isBare wsX8_isBare) := goodIn_app (goodIn_of _ (by decide +kernel)) ggX11_market_X8_isBare
set_option maxRecDepth 20000 in
theorem ggX11_market_X8_holdsRowOf : GoodIn wsX11_market wsX8_holdsRowOf := goodIn_r _ [20, 16, 21, 22, 23, 13, 24, 136, 137, 138, 139] (by decide +kernel) (by decide +kernel)
set_option maxRecDepth 20000 in
theorem gX11_market_X8_holdsRowOf : GoodIn wsX11_market (wsV RX11 57 RX8 yX8_holdsRowOf wsX8_holdsRowOf) := goodIn_app (goodIn_of _ (by decide +kernel)) ggX11_market_X8_holdsRowOf
set_option maxRecDepth 20000 in
theorem ggX11_market_X6_readFrom : GoodIn wsX11_market wsX6_readFrom := goodIn_r _ [29, 30, 31, 32, 33, 34, 35, 36, 37, 38, 39, 40, 41, 42, 43, 44, 45, 46, 28, 47, 48, 49, 50, 51, 52, 53, 54, 55, 56, 57, 58, 59, 60, 61, 62, 63, 64, 65, 66, 67, 68, 69, 70, 71, 72, 73, 74, 75, 76, 77, 78, 79, 80, 81, 82, 83, 84, 85, 86, 87, 88, 89, 90, 91, 92, 93, 94, 95, 96, 97, 98, 99, 100, 101, 102, 103, 104, 105, 106, 107, 108, 109, 110, 127, 128, 129, 130, 131, 132, 133, 134, 135, 136, 137, 138, 139, 140, 141, 142, 143, 144, 145, 146, 147, 148] (by decide +kernel) (by decide +kernel)
set_option maxRecDepth 20000 in
theorem gX11_market_X6_readFrom : GoodIn wsX11_market (wsV RX11 60 RX6 yX6_readFrom wsX6_readFrom) := goodIn_app (goodIn_of _ (by decide +kernel)) ggX11_market_X6_readFrom
set_option maxRecDepth 20000 in
theorem ggX11_market_X4_takeFrom : GoodIn wsX11_market wsX4_takeFrom := goodIn_r _ [114, 41, 42, 43, 85, 115, 116, 117, 118, 86, 87, 92, 93, 94, 140, 141, 142, 143, 144, 145, 146, 147, 148] (by decide +kernel) (by decide +kernel)
set_option maxRecDepth 20000 in
theorem gX11_market_X4_takeFrom : GoodIn wsX11_market (wsV RX11 67 RX4 yX4_takeFrom wsX4_takeFrom) := goodIn_app (goodIn_of _ (by decide +kernel)) ggX11_market_X4_takeFrom
theorem dX11_market_0 : decode cX11_market 0 = .ok (.iload_n 1, 1) := by decide +kernel
theorem dX11_market_1 : decode cX11_market 1 = .ok (.invokestatic 49, 3) := by decide +kernel
theorem dX11_market_4 : decode cX11_market 4 = .ok (.ifCond .ne 5, 3) := by decide +kernel
theorem dX11_market_7 : decode cX11_market 7 = .ok (.iconst (-1), 1) := by decide +kernel
theorem dX11_market_8 : decode cX11_market 8 = .ok (.ireturn, 1) := by decide +kernel
theorem dX11_market_9 : decode cX11_market 9 = .ok (.aload_n 0, 1) := by decide +kernel
theorem dX11_market_10 : decode cX11_market 10 = .ok (.getfield 44, 3) := by decide +kernel
theorem dX11_market_13 : decode cX11_market 13 = .ok (.iload_n 1, 1) := by decide +kernel
theorem dX11_market_14 : decode cX11_market 14 = .ok (.aaload, 1) := by decide +kernel
theorem dX11_market_15 : decode cX11_market 15 = .ok (.astore_n 2, 1) := by decide +kernel
theorem dX11_market_16 : decode cX11_market 16 = .ok (.aload_n 2, 1) := by decide +kernel
theorem dX11_market_17 : decode cX11_market 17 = .ok (.invokevirtual 53, 3) := by decide +kernel
theorem dX11_market_20 : decode cX11_market 20 = .ok (.ifCond .eq 6, 3) := by decide +kernel
theorem dX11_market_23 : decode cX11_market 23 = .ok (.bipush (-11), 2) := by decide +kernel
theorem dX11_market_25 : decode cX11_market 25 = .ok (.ireturn, 1) := by decide +kernel
theorem dX11_market_26 : decode cX11_market 26 = .ok (.aload_n 2, 1) := by decide +kernel
theorem dX11_market_27 : decode cX11_market 27 = .ok (.iconst 0, 1) := by decide +kernel
theorem dX11_market_28 : decode cX11_market 28 = .ok (.invokevirtual 57, 3) := by decide +kernel
theorem dX11_market_31 : decode cX11_market 31 = .ok (.ifCond .ne 6, 3) := by decide +kernel
theorem dX11_market_34 : decode cX11_market 34 = .ok (.bipush (-12), 2) := by decide +kernel
theorem dX11_market_36 : decode cX11_market 36 = .ok (.ireturn, 1) := by decide +kernel
theorem dX11_market_37 : decode cX11_market 37 = .ok (.aload_n 0, 1) := by decide +kernel
theorem dX11_market_38 : decode cX11_market 38 = .ok (.getfield 22, 3) := by decide +kernel
theorem dX11_market_41 : decode cX11_market 41 = .ok (.aload_n 2, 1) := by decide +kernel
theorem dX11_market_42 : decode cX11_market 42 = .ok (.invokevirtual 60, 3) := by decide +kernel
theorem dX11_market_45 : decode cX11_market 45 = .ok (.istore_n 3, 1) := by decide +kernel
theorem dX11_market_46 : decode cX11_market 46 = .ok (.iload_n 3, 1) := by decide +kernel
theorem dX11_market_47 : decode cX11_market 47 = .ok (.ifCond .le 22, 3) := by decide +kernel
theorem dX11_market_50 : decode cX11_market 50 = .ok (.aload_n 0, 1) := by decide +kernel
theorem dX11_market_51 : decode cX11_market 51 = .ok (.getfield 10, 3) := by decide +kernel
theorem dX11_market_54 : decode cX11_market 54 = .ok (.aload_n 0, 1) := by decide +kernel
theorem dX11_market_55 : decode cX11_market 55 = .ok (.getfield 22, 3) := by decide +kernel
theorem dX11_market_58 : decode cX11_market 58 = .ok (.getfield 64, 3) := by decide +kernel
theorem dX11_market_61 : decode cX11_market 61 = .ok (.invokevirtual 67, 3) := by decide +kernel
theorem dX11_market_64 : decode cX11_market 64 = .ok (.aload_n 0, 1) := by decide +kernel
theorem dX11_market_65 : decode cX11_market 65 = .ok (.iconst 1, 1) := by decide +kernel
theorem dX11_market_66 : decode cX11_market 66 = .ok (.putfield 70, 3) := by decide +kernel
theorem dX11_market_69 : decode cX11_market 69 = .ok (.iload_n 3, 1) := by decide +kernel
theorem dX11_market_70 : decode cX11_market 70 = .ok (.ireturn, 1) := by decide +kernel
set_option maxRecDepth 20000 in
theorem ggX11_sort_X4_hasSort : GoodIn wsX11_sort wsX4_hasSort := goodIn_r _ [10, 11, 20, 21, 22, 23, 24, 25, 26, 27, 28] (by decide +kernel) (by decide +kernel)
set_option maxRecDepth 20000 in
theorem gX11_sort_X4_hasSort : GoodIn wsX11_sort (wsV RX11 74 RX4 yX4_hasSort wsX4_hasSort) := goodIn_app (goodIn_of _ (by decide +kernel)) ggX11_sort_X4_hasSort
theorem dX11_sort_0 : decode cX11_sort 0 = .ok (.aload_n 0, 1) := by decide +kernel
theorem dX11_sort_1 : decode cX11_sort 1 = .ok (.getfield 70, 3) := by decide +kernel
theorem dX11_sort_4 : decode cX11_sort 4 = .ok (.ifCond .ne 6, 3) := by decide +kernel
theorem dX11_sort_7 : decode cX11_sort 7 = .ok (.bipush (-3), 2) := by decide +kernel
theorem dX11_sort_9 : decode cX11_sort 9 = .ok (.ireturn, 1) := by decide +kernel
theorem dX11_sort_10 : decode cX11_sort 10 = .ok (.aload_n 0, 1) := by decide +kernel
theorem dX11_sort_11 : decode cX11_sort 11 = .ok (.getfield 10, 3) := by decide +kernel
theorem dX11_sort_14 : decode cX11_sort 14 = .ok (.iload_n 1, 1) := by decide +kernel
theorem dX11_sort_15 : decode cX11_sort 15 = .ok (.invokevirtual 74, 3) := by decide +kernel
theorem dX11_sort_18 : decode cX11_sort 18 = .ok (.ifCond .ne 5, 3) := by decide +kernel
theorem dX11_sort_21 : decode cX11_sort 21 = .ok (.iconst (-1), 1) := by decide +kernel
theorem dX11_sort_22 : decode cX11_sort 22 = .ok (.ireturn, 1) := by decide +kernel
theorem dX11_sort_23 : decode cX11_sort 23 = .ok (.iload_n 2, 1) := by decide +kernel
theorem dX11_sort_24 : decode cX11_sort 24 = .ok (.tableswitch 58 0 2 #[28, 38, 48], 28) := by decide +kernel
theorem dX11_sort_52 : decode cX11_sort 52 = .ok (.aload_n 0, 1) := by decide +kernel
theorem dX11_sort_53 : decode cX11_sort 53 = .ok (.getfield 10, 3) := by decide +kernel
theorem dX11_sort_56 : decode cX11_sort 56 = .ok (.getfield 77, 3) := by decide +kernel
theorem dX11_sort_59 : decode cX11_sort 59 = .ok (.iload_n 1, 1) := by decide +kernel
theorem dX11_sort_60 : decode cX11_sort 60 = .ok (.iaload, 1) := by decide +kernel
theorem dX11_sort_61 : decode cX11_sort 61 = .ok (.ireturn, 1) := by decide +kernel
theorem dX11_sort_62 : decode cX11_sort 62 = .ok (.aload_n 0, 1) := by decide +kernel
theorem dX11_sort_63 : decode cX11_sort 63 = .ok (.getfield 10, 3) := by decide +kernel
theorem dX11_sort_66 : decode cX11_sort 66 = .ok (.getfield 81, 3) := by decide +kernel
theorem dX11_sort_69 : decode cX11_sort 69 = .ok (.iload_n 1, 1) := by decide +kernel
theorem dX11_sort_70 : decode cX11_sort 70 = .ok (.iaload, 1) := by decide +kernel
theorem dX11_sort_71 : decode cX11_sort 71 = .ok (.ireturn, 1) := by decide +kernel
theorem dX11_sort_72 : decode cX11_sort 72 = .ok (.aload_n 0, 1) := by decide +kernel
theorem dX11_sort_73 : decode cX11_sort 73 = .ok (.getfield 10, 3) := by decide +kernel
theorem dX11_sort_76 : decode cX11_sort 76 = .ok (.getfield 84, 3) := by decide +kernel
theorem dX11_sort_79 : decode cX11_sort 79 = .ok (.iload_n 1, 1) := by decide +kernel
theorem dX11_sort_80 : decode cX11_sort 80 = .ok (.iaload, 1) := by decide +kernel
theorem dX11_sort_81 : decode cX11_sort 81 = .ok (.ireturn, 1) := by decide +kernel
theorem dX11_sort_82 : decode cX11_sort 82 = .ok (.iconst (-1), 1) := by decide +kernel
theorem dX11_sort_83 : decode cX11_sort 83 = .ok (.ireturn, 1) := by decide +kernel
set_option maxRecDepth 20000 in
theorem ggX11_mark_X4_hasMark : GoodIn wsX11_mark wsX4_hasMark := goodIn_r _ [9, 10, 29, 30, 31, 32, 33, 34, 35, 36, 37] (by decide +kernel) (by decide +kernel)
set_option maxRecDepth 20000 in
theorem gX11_mark_X4_hasMark : GoodIn wsX11_mark (wsV RX11 87 RX4 yX4_hasMark wsX4_hasMark) := goodIn_app (goodIn_of _ (by decide +kernel)) ggX11_mark_X4_hasMark
set_option maxRecDepth 20000 in
theorem ggX11_mark_X4_toldAt : GoodIn wsX11_mark wsX4_toldAt := goodIn_r _ [14, 15, 29, 30, 31, 32, 33, 34, 35, 36, 37] (by decide +kernel) (by decide +kernel)
set_option maxRecDepth 20000 in
theorem gX11_mark_X4_toldAt : GoodIn wsX11_mark (wsV RX11 90 RX4 yX4_toldAt wsX4_toldAt) := goodIn_app (goodIn_of _ (by decide +kernel)) ggX11_mark_X4_toldAt
set_option maxRecDepth 20000 in
theorem ggX11_mark_X4_hasSort : GoodIn wsX11_mark wsX4_hasSort := goodIn_r _ [19, 20, 29, 30, 31, 32, 33, 34, 35, 36, 37] (by decide +kernel) (by decide +kernel)
set_option maxRecDepth 20000 in
theorem gX11_mark_X4_hasSort : GoodIn wsX11_mark (wsV RX11 74 RX4 yX4_hasSort wsX4_hasSort) := goodIn_app (goodIn_of _ (by decide +kernel)) ggX11_mark_X4_hasSort
theorem dX11_mark_0 : decode cX11_mark 0 = .ok (.aload_n 0, 1) := by decide +kernel
theorem dX11_mark_1 : decode cX11_mark 1 = .ok (.getfield 70, 3) := by decide +kernel
theorem dX11_mark_4 : decode cX11_mark 4 = .ok (.ifCond .ne 6, 3) := by decide +kernel
theorem dX11_mark_7 : decode cX11_mark 7 = .ok (.bipush (-3), 2) := by decide +kernel
theorem dX11_mark_9 : decode cX11_mark 9 = .ok (.ireturn, 1) := by decide +kernel
theorem dX11_mark_10 : decode cX11_mark 10 = .ok (.aload_n 0, 1) := by decide +kernel
theorem dX11_mark_11 : decode cX11_mark 11 = .ok (.getfield 10, 3) := by decide +kernel
theorem dX11_mark_14 : decode cX11_mark 14 = .ok (.iload_n 1, 1) := by decide +kernel
theorem dX11_mark_15 : decode cX11_mark 15 = .ok (.invokevirtual 87, 3) := by decide +kernel
theorem dX11_mark_18 : decode cX11_mark 18 = .ok (.ifCond .ne 5, 3) := by decide +kernel
theorem dX11_mark_21 : decode cX11_mark 21 = .ok (.iconst (-1), 1) := by decide +kernel
theorem dX11_mark_22 : decode cX11_mark 22 = .ok (.ireturn, 1) := by decide +kernel
theorem dX11_mark_23 : decode cX11_mark 23 = .ok (.iload_n 2, 1) := by decide +kernel
theorem dX11_mark_24 : decode cX11_mark 24 = .ok (.bipush (-2), 2) := by decide +kernel
theorem dX11_mark_26 : decode cX11_mark 26 = .ok (.if_icmp .ne 12, 3) := by decide +kernel
theorem dX11_mark_29 : decode cX11_mark 29 = .ok (.aload_n 0, 1) := by decide +kernel
theorem dX11_mark_30 : decode cX11_mark 30 = .ok (.getfield 10, 3) := by decide +kernel
theorem dX11_mark_33 : decode cX11_mark 33 = .ok (.iload_n 1, 1) := by decide +kernel
theorem dX11_mark_34 : decode cX11_mark 34 = .ok (.invokevirtual 90, 3) := by decide +kernel
theorem dX11_mark_37 : decode cX11_mark 37 = .ok (.ireturn, 1) := by decide +kernel
theorem dX11_mark_38 : decode cX11_mark 38 = .ok (.iload_n 2, 1) := by decide +kernel
theorem dX11_mark_39 : decode cX11_mark 39 = .ok (.iconst (-1), 1) := by decide +kernel
theorem dX11_mark_40 : decode cX11_mark 40 = .ok (.if_icmp .ne 13, 3) := by decide +kernel
theorem dX11_mark_43 : decode cX11_mark 43 = .ok (.aload_n 0, 1) := by decide +kernel
theorem dX11_mark_44 : decode cX11_mark 44 = .ok (.getfield 10, 3) := by decide +kernel
theorem dX11_mark_47 : decode cX11_mark 47 = .ok (.getfield 94, 3) := by decide +kernel
theorem dX11_mark_50 : decode cX11_mark 50 = .ok (.iload_n 1, 1) := by decide +kernel
theorem dX11_mark_51 : decode cX11_mark 51 = .ok (.iaload, 1) := by decide +kernel
theorem dX11_mark_52 : decode cX11_mark 52 = .ok (.ireturn, 1) := by decide +kernel
theorem dX11_mark_53 : decode cX11_mark 53 = .ok (.aload_n 0, 1) := by decide +kernel
theorem dX11_mark_54 : decode cX11_mark 54 = .ok (.getfield 10, 3) := by decide +kernel
theorem dX11_mark_57 : decode cX11_mark 57 = .ok (.iload_n 2, 1) := by decide +kernel
theorem dX11_mark_58 : decode cX11_mark 58 = .ok (.invokevirtual 74, 3) := by decide +kernel
theorem dX11_mark_61 : decode cX11_mark 61 = .ok (.ifCond .eq 17, 3) := by decide +kernel
theorem dX11_mark_64 : decode cX11_mark 64 = .ok (.aload_n 0, 1) := by decide +kernel
theorem dX11_mark_65 : decode cX11_mark 65 = .ok (.getfield 10, 3) := by decide +kernel
theorem dX11_mark_68 : decode cX11_mark 68 = .ok (.getfield 97, 3) := by decide +kernel
theorem dX11_mark_71 : decode cX11_mark 71 = .ok (.iload_n 1, 1) := by decide +kernel
theorem dX11_mark_72 : decode cX11_mark 72 = .ok (.aaload, 1) := by decide +kernel
theorem dX11_mark_73 : decode cX11_mark 73 = .ok (.iload_n 2, 1) := by decide +kernel
theorem dX11_mark_74 : decode cX11_mark 74 = .ok (.iaload, 1) := by decide +kernel
theorem dX11_mark_75 : decode cX11_mark 75 = .ok (.goto 4, 3) := by decide +kernel
theorem dX11_mark_78 : decode cX11_mark 78 = .ok (.iconst (-1), 1) := by decide +kernel
theorem dX11_mark_79 : decode cX11_mark 79 = .ok (.ireturn, 1) := by decide +kernel
set_option maxRecDepth 20000 in
theorem ggX11_change_X4_hasSort : GoodIn wsX11_change wsX4_hasSort := goodIn_r _ [9, 10, 23, 24, 25, 26, 27, 28, 29, 30, 31] (by decide +kernel) (by decide +kernel)
set_option maxRecDepth 20000 in
theorem gX11_change_X4_hasSort : GoodIn wsX11_change (wsV RX11 74 RX4 yX4_hasSort wsX4_hasSort) := goodIn_app (goodIn_of _ (by decide +kernel)) ggX11_change_X4_hasSort
set_option maxRecDepth 20000 in
theorem ggX11_change_X11_isBit : GoodIn wsX11_change wsX11_isBit := goodIn_r _ [14] (by decide +kernel) (by decide +kernel)
set_option maxRecDepth 20000 in
theorem gX11_change_X11_isBit : GoodIn wsX11_change (va_wsS RX11 101 yX11_isBit wsX11_isBit) := goodIn_app (goodIn_of _ (by decide +kernel)) ggX11_change_X11_isBit
theorem dX11_change_0 : decode cX11_change 0 = .ok (.aload_n 0, 1) := by decide +kernel
theorem dX11_change_1 : decode cX11_change 1 = .ok (.getfield 70, 3) := by decide +kernel
theorem dX11_change_4 : decode cX11_change 4 = .ok (.ifCond .ne 6, 3) := by decide +kernel
theorem dX11_change_7 : decode cX11_change 7 = .ok (.bipush (-3), 2) := by decide +kernel
theorem dX11_change_9 : decode cX11_change 9 = .ok (.ireturn, 1) := by decide +kernel
theorem dX11_change_10 : decode cX11_change 10 = .ok (.aload_n 0, 1) := by decide +kernel
theorem dX11_change_11 : decode cX11_change 11 = .ok (.getfield 10, 3) := by decide +kernel
theorem dX11_change_14 : decode cX11_change 14 = .ok (.iload_n 1, 1) := by decide +kernel
theorem dX11_change_15 : decode cX11_change 15 = .ok (.invokevirtual 74, 3) := by decide +kernel
theorem dX11_change_18 : decode cX11_change 18 = .ok (.ifCond .eq 21, 3) := by decide +kernel
theorem dX11_change_21 : decode cX11_change 21 = .ok (.iload_n 2, 1) := by decide +kernel
theorem dX11_change_22 : decode cX11_change 22 = .ok (.invokestatic 101, 3) := by decide +kernel
theorem dX11_change_25 : decode cX11_change 25 = .ok (.ifCond .eq 14, 3) := by decide +kernel
theorem dX11_change_28 : decode cX11_change 28 = .ok (.iload_n 3, 1) := by decide +kernel
theorem dX11_change_29 : decode cX11_change 29 = .ok (.ifCond .lt 10, 3) := by decide +kernel
theorem dX11_change_32 : decode cX11_change 32 = .ok (.iload_n 3, 1) := by decide +kernel
theorem dX11_change_33 : decode cX11_change 33 = .ok (.sipush 999, 3) := by decide +kernel
theorem dX11_change_36 : decode cX11_change 36 = .ok (.if_icmp .le 5, 3) := by decide +kernel
theorem dX11_change_39 : decode cX11_change 39 = .ok (.iconst (-1), 1) := by decide +kernel
theorem dX11_change_40 : decode cX11_change 40 = .ok (.ireturn, 1) := by decide +kernel
theorem dX11_change_41 : decode cX11_change 41 = .ok (.iload_n 2, 1) := by decide +kernel
theorem dX11_change_42 : decode cX11_change 42 = .ok (.ifCond .ne 15, 3) := by decide +kernel
theorem dX11_change_45 : decode cX11_change 45 = .ok (.aload_n 0, 1) := by decide +kernel
theorem dX11_change_46 : decode cX11_change 46 = .ok (.getfield 10, 3) := by decide +kernel
theorem dX11_change_49 : decode cX11_change 49 = .ok (.getfield 81, 3) := by decide +kernel
theorem dX11_change_52 : decode cX11_change 52 = .ok (.iload_n 1, 1) := by decide +kernel
theorem dX11_change_53 : decode cX11_change 53 = .ok (.iaload, 1) := by decide +kernel
theorem dX11_change_54 : decode cX11_change 54 = .ok (.goto 12, 3) := by decide +kernel
theorem dX11_change_57 : decode cX11_change 57 = .ok (.aload_n 0, 1) := by decide +kernel
theorem dX11_change_58 : decode cX11_change 58 = .ok (.getfield 10, 3) := by decide +kernel
theorem dX11_change_61 : decode cX11_change 61 = .ok (.getfield 84, 3) := by decide +kernel
theorem dX11_change_64 : decode cX11_change 64 = .ok (.iload_n 1, 1) := by decide +kernel
theorem dX11_change_65 : decode cX11_change 65 = .ok (.iaload, 1) := by decide +kernel
theorem dX11_change_66 : decode cX11_change 66 = .ok (.istore 4, 2) := by decide +kernel
theorem dX11_change_68 : decode cX11_change 68 = .ok (.iload_n 2, 1) := by decide +kernel
theorem dX11_change_69 : decode cX11_change 69 = .ok (.ifCond .ne 16, 3) := by decide +kernel
theorem dX11_change_72 : decode cX11_change 72 = .ok (.aload_n 0, 1) := by decide +kernel
theorem dX11_change_73 : decode cX11_change 73 = .ok (.getfield 10, 3) := by decide +kernel
theorem dX11_change_76 : decode cX11_change 76 = .ok (.getfield 81, 3) := by decide +kernel
theorem dX11_change_79 : decode cX11_change 79 = .ok (.iload_n 1, 1) := by decide +kernel
theorem dX11_change_80 : decode cX11_change 80 = .ok (.iload_n 3, 1) := by decide +kernel
theorem dX11_change_81 : decode cX11_change 81 = .ok (.iastore, 1) := by decide +kernel
theorem dX11_change_82 : decode cX11_change 82 = .ok (.goto 13, 3) := by decide +kernel
theorem dX11_change_85 : decode cX11_change 85 = .ok (.aload_n 0, 1) := by decide +kernel
theorem dX11_change_86 : decode cX11_change 86 = .ok (.getfield 10, 3) := by decide +kernel
theorem dX11_change_89 : decode cX11_change 89 = .ok (.getfield 84, 3) := by decide +kernel
theorem dX11_change_92 : decode cX11_change 92 = .ok (.iload_n 1, 1) := by decide +kernel
theorem dX11_change_93 : decode cX11_change 93 = .ok (.iload_n 3, 1) := by decide +kernel
theorem dX11_change_94 : decode cX11_change 94 = .ok (.iastore, 1) := by decide +kernel
theorem dX11_change_95 : decode cX11_change 95 = .ok (.iload 4, 2) := by decide +kernel
theorem dX11_change_97 : decode cX11_change 97 = .ok (.ireturn, 1) := by decide +kernel
set_option maxRecDepth 20000 in
theorem ggX11_cost_X4_hasMark : GoodIn wsX11_cost wsX4_hasMark := goodIn_r _ [8, 9, 29, 30, 31, 32, 33, 34, 35, 36, 37] (by decide +kernel) (by decide +kernel)
set_option maxRecDepth 20000 in
theorem gX11_cost_X4_hasMark : GoodIn wsX11_cost (wsV RX11 87 RX4 yX4_hasMark wsX4_hasMark) := goodIn_app (goodIn_of _ (by decide +kernel)) ggX11_cost_X4_hasMark
set_option maxRecDepth 20000 in
theorem ggX11_cost_X11_changeUse : GoodIn wsX11_cost wsX11_changeUse := goodIn_r _ [14, 2, 15, 21, 22, 23, 24, 25, 26, 27, 28, 29, 30, 31, 32, 33, 34, 35, 36, 37] (by decide +kernel) (by decide +kernel)
set_option maxRecDepth 20000 in
theorem gX11_cost_X11_changeUse : GoodIn wsX11_cost (wsV RX11 104 RX11 yX11_changeUse wsX11_changeUse) := goodIn_app (goodIn_of _ (by decide +kernel)) ggX11_cost_X11_changeUse
set_option maxRecDepth 20000 in
theorem ggX11_cost_X4_hasSort : GoodIn wsX11_cost wsX4_hasSort := goodIn_r _ [19, 20, 29, 30, 31, 32, 33, 34, 35, 36, 37] (by decide +kernel) (by decide +kernel)
set_option maxRecDepth 20000 in
theorem gX11_cost_X4_hasSort : GoodIn wsX11_cost (wsV RX11 74 RX4 yX4_hasSort wsX4_hasSort) := goodIn_app (goodIn_of _ (by decide +kernel)) ggX11_cost_X4_hasSort
theorem dX11_cost_0 : decode cX11_cost 0 = .ok (.aload_n 0, 1) := by decide +kernel
theorem dX11_cost_1 : decode cX11_cost 1 = .ok (.getfield 70, 3) := by decide +kernel
theorem dX11_cost_4 : decode cX11_cost 4 = .ok (.ifCond .ne 6, 3) := by decide +kernel
theorem dX11_cost_7 : decode cX11_cost 7 = .ok (.bipush (-3), 2) := by decide +kernel
theorem dX11_cost_9 : decode cX11_cost 9 = .ok (.ireturn, 1) := by decide +kernel
theorem dX11_cost_10 : decode cX11_cost 10 = .ok (.aload_n 0, 1) := by decide +kernel
theorem dX11_cost_11 : decode cX11_cost 11 = .ok (.getfield 10, 3) := by decide +kernel
theorem dX11_cost_14 : decode cX11_cost 14 = .ok (.iload_n 1, 1) := by decide +kernel
theorem dX11_cost_15 : decode cX11_cost 15 = .ok (.invokevirtual 87, 3) := by decide +kernel
theorem dX11_cost_18 : decode cX11_cost 18 = .ok (.ifCond .eq 7, 3) := by decide +kernel
theorem dX11_cost_21 : decode cX11_cost 21 = .ok (.iload_n 3, 1) := by decide +kernel
theorem dX11_cost_22 : decode cX11_cost 22 = .ok (.ifCond .ge 5, 3) := by decide +kernel
theorem dX11_cost_25 : decode cX11_cost 25 = .ok (.iconst (-1), 1) := by decide +kernel
theorem dX11_cost_26 : decode cX11_cost 26 = .ok (.ireturn, 1) := by decide +kernel
theorem dX11_cost_27 : decode cX11_cost 27 = .ok (.iload_n 2, 1) := by decide +kernel
theorem dX11_cost_28 : decode cX11_cost 28 = .ok (.iconst (-1), 1) := by decide +kernel
theorem dX11_cost_29 : decode cX11_cost 29 = .ok (.if_icmp .ne 10, 3) := by decide +kernel
theorem dX11_cost_32 : decode cX11_cost 32 = .ok (.aload_n 0, 1) := by decide +kernel
theorem dX11_cost_33 : decode cX11_cost 33 = .ok (.iload_n 1, 1) := by decide +kernel
theorem dX11_cost_34 : decode cX11_cost 34 = .ok (.iload_n 3, 1) := by decide +kernel
theorem dX11_cost_35 : decode cX11_cost 35 = .ok (.invokevirtual 104, 3) := by decide +kernel
theorem dX11_cost_38 : decode cX11_cost 38 = .ok (.ireturn, 1) := by decide +kernel
theorem dX11_cost_39 : decode cX11_cost 39 = .ok (.aload_n 0, 1) := by decide +kernel
theorem dX11_cost_40 : decode cX11_cost 40 = .ok (.getfield 10, 3) := by decide +kernel
theorem dX11_cost_43 : decode cX11_cost 43 = .ok (.iload_n 2, 1) := by decide +kernel
theorem dX11_cost_44 : decode cX11_cost 44 = .ok (.invokevirtual 74, 3) := by decide +kernel
theorem dX11_cost_47 : decode cX11_cost 47 = .ok (.ifCond .eq 10, 3) := by decide +kernel
theorem dX11_cost_50 : decode cX11_cost 50 = .ok (.iload_n 3, 1) := by decide +kernel
theorem dX11_cost_51 : decode cX11_cost 51 = .ok (.sipush 999, 3) := by decide +kernel
theorem dX11_cost_54 : decode cX11_cost 54 = .ok (.if_icmp .le 5, 3) := by decide +kernel
theorem dX11_cost_57 : decode cX11_cost 57 = .ok (.iconst (-1), 1) := by decide +kernel
theorem dX11_cost_58 : decode cX11_cost 58 = .ok (.ireturn, 1) := by decide +kernel
theorem dX11_cost_59 : decode cX11_cost 59 = .ok (.aload_n 0, 1) := by decide +kernel
theorem dX11_cost_60 : decode cX11_cost 60 = .ok (.getfield 10, 3) := by decide +kernel
theorem dX11_cost_63 : decode cX11_cost 63 = .ok (.getfield 97, 3) := by decide +kernel
theorem dX11_cost_66 : decode cX11_cost 66 = .ok (.iload_n 1, 1) := by decide +kernel
theorem dX11_cost_67 : decode cX11_cost 67 = .ok (.aaload, 1) := by decide +kernel
theorem dX11_cost_68 : decode cX11_cost 68 = .ok (.iload_n 2, 1) := by decide +kernel
theorem dX11_cost_69 : decode cX11_cost 69 = .ok (.iaload, 1) := by decide +kernel
theorem dX11_cost_70 : decode cX11_cost 70 = .ok (.istore 4, 2) := by decide +kernel
theorem dX11_cost_72 : decode cX11_cost 72 = .ok (.aload_n 0, 1) := by decide +kernel
theorem dX11_cost_73 : decode cX11_cost 73 = .ok (.getfield 10, 3) := by decide +kernel
theorem dX11_cost_76 : decode cX11_cost 76 = .ok (.getfield 97, 3) := by decide +kernel
theorem dX11_cost_79 : decode cX11_cost 79 = .ok (.iload_n 1, 1) := by decide +kernel
theorem dX11_cost_80 : decode cX11_cost 80 = .ok (.aaload, 1) := by decide +kernel
theorem dX11_cost_81 : decode cX11_cost 81 = .ok (.iload_n 2, 1) := by decide +kernel
theorem dX11_cost_82 : decode cX11_cost 82 = .ok (.iload_n 3, 1) := by decide +kernel
theorem dX11_cost_83 : decode cX11_cost 83 = .ok (.iastore, 1) := by decide +kernel
theorem dX11_cost_84 : decode cX11_cost 84 = .ok (.iload 4, 2) := by decide +kernel
theorem dX11_cost_86 : decode cX11_cost 86 = .ok (.ireturn, 1) := by decide +kernel
theorem dX11_changeUse_0 : decode cX11_changeUse 0 = .ok (.iload_n 2, 1) := by decide +kernel
theorem dX11_changeUse_1 : decode cX11_changeUse 1 = .ok (.bipush 99, 2) := by decide +kernel
theorem dX11_changeUse_3 : decode cX11_changeUse 3 = .ok (.if_icmp .le 5, 3) := by decide +kernel
theorem dX11_changeUse_6 : decode cX11_changeUse 6 = .ok (.iconst (-1), 1) := by decide +kernel
theorem dX11_changeUse_7 : decode cX11_changeUse 7 = .ok (.ireturn, 1) := by decide +kernel
theorem dX11_changeUse_8 : decode cX11_changeUse 8 = .ok (.aload_n 0, 1) := by decide +kernel
theorem dX11_changeUse_9 : decode cX11_changeUse 9 = .ok (.getfield 10, 3) := by decide +kernel
theorem dX11_changeUse_12 : decode cX11_changeUse 12 = .ok (.getfield 94, 3) := by decide +kernel
theorem dX11_changeUse_15 : decode cX11_changeUse 15 = .ok (.iload_n 1, 1) := by decide +kernel
theorem dX11_changeUse_16 : decode cX11_changeUse 16 = .ok (.iaload, 1) := by decide +kernel
theorem dX11_changeUse_17 : decode cX11_changeUse 17 = .ok (.istore_n 3, 1) := by decide +kernel
theorem dX11_changeUse_18 : decode cX11_changeUse 18 = .ok (.aload_n 0, 1) := by decide +kernel
theorem dX11_changeUse_19 : decode cX11_changeUse 19 = .ok (.getfield 10, 3) := by decide +kernel
theorem dX11_changeUse_22 : decode cX11_changeUse 22 = .ok (.getfield 94, 3) := by decide +kernel
theorem dX11_changeUse_25 : decode cX11_changeUse 25 = .ok (.iload_n 1, 1) := by decide +kernel
theorem dX11_changeUse_26 : decode cX11_changeUse 26 = .ok (.iload_n 2, 1) := by decide +kernel
theorem dX11_changeUse_27 : decode cX11_changeUse 27 = .ok (.iastore, 1) := by decide +kernel
theorem dX11_changeUse_28 : decode cX11_changeUse 28 = .ok (.iload_n 3, 1) := by decide +kernel
theorem dX11_changeUse_29 : decode cX11_changeUse 29 = .ok (.ireturn, 1) := by decide +kernel
set_option maxRecDepth 20000 in
theorem ggX11_think_X4_hasMark : GoodIn wsX11_think wsX4_hasMark := goodIn_r _ [8, 9, 28, 29, 30, 31, 32, 33, 34, 35, 36] (by decide +kernel) (by decide +kernel)
set_option maxRecDepth 20000 in
theorem gX11_think_X4_hasMark : GoodIn wsX11_think (wsV RX11 87 RX4 yX4_hasMark wsX4_hasMark) := goodIn_app (goodIn_of _ (by decide +kernel)) ggX11_think_X4_hasMark
set_option maxRecDepth 20000 in
theorem ggX11_think_X4_hasSort : GoodIn wsX11_think wsX4_hasSort := goodIn_r _ [13, 14, 28, 29, 30, 31, 32, 33, 34, 35, 36] (by decide +kernel) (by decide +kernel)
set_option maxRecDepth 20000 in
theorem gX11_think_X4_hasSort : GoodIn wsX11_think (wsV RX11 74 RX4 yX4_hasSort wsX4_hasSort) := goodIn_app (goodIn_of _ (by decide +kernel)) ggX11_think_X4_hasSort
set_option maxRecDepth 20000 in
theorem ggX11_think_X4_toldAt : GoodIn wsX11_think wsX4_toldAt := goodIn_r _ [18, 19, 28, 29, 30, 31, 32, 33, 34, 35, 36] (by decide +kernel) (by decide +kernel)
set_option maxRecDepth 20000 in
theorem gX11_think_X4_toldAt : GoodIn wsX11_think (wsV RX11 90 RX4 yX4_toldAt wsX4_toldAt) := goodIn_app (goodIn_of _ (by decide +kernel)) ggX11_think_X4_toldAt
theorem dX11_think_0 : decode cX11_think 0 = .ok (.aload_n 0, 1) := by decide +kernel
theorem dX11_think_1 : decode cX11_think 1 = .ok (.getfield 70, 3) := by decide +kernel
theorem dX11_think_4 : decode cX11_think 4 = .ok (.ifCond .ne 6, 3) := by decide +kernel
theorem dX11_think_7 : decode cX11_think 7 = .ok (.bipush (-3), 2) := by decide +kernel
theorem dX11_think_9 : decode cX11_think 9 = .ok (.ireturn, 1) := by decide +kernel
theorem dX11_think_10 : decode cX11_think 10 = .ok (.aload_n 0, 1) := by decide +kernel
theorem dX11_think_11 : decode cX11_think 11 = .ok (.getfield 10, 3) := by decide +kernel
theorem dX11_think_14 : decode cX11_think 14 = .ok (.iload_n 1, 1) := by decide +kernel
theorem dX11_think_15 : decode cX11_think 15 = .ok (.invokevirtual 87, 3) := by decide +kernel
theorem dX11_think_18 : decode cX11_think 18 = .ok (.ifCond .eq 19, 3) := by decide +kernel
theorem dX11_think_21 : decode cX11_think 21 = .ok (.iload_n 2, 1) := by decide +kernel
theorem dX11_think_22 : decode cX11_think 22 = .ok (.iconst (-1), 1) := by decide +kernel
theorem dX11_think_23 : decode cX11_think 23 = .ok (.if_icmp .eq 16, 3) := by decide +kernel
theorem dX11_think_26 : decode cX11_think 26 = .ok (.aload_n 0, 1) := by decide +kernel
theorem dX11_think_27 : decode cX11_think 27 = .ok (.getfield 10, 3) := by decide +kernel
theorem dX11_think_30 : decode cX11_think 30 = .ok (.iload_n 2, 1) := by decide +kernel
theorem dX11_think_31 : decode cX11_think 31 = .ok (.invokevirtual 74, 3) := by decide +kernel
theorem dX11_think_34 : decode cX11_think 34 = .ok (.ifCond .ne 5, 3) := by decide +kernel
theorem dX11_think_37 : decode cX11_think 37 = .ok (.iconst (-1), 1) := by decide +kernel
theorem dX11_think_38 : decode cX11_think 38 = .ok (.ireturn, 1) := by decide +kernel
theorem dX11_think_39 : decode cX11_think 39 = .ok (.aload_n 0, 1) := by decide +kernel
theorem dX11_think_40 : decode cX11_think 40 = .ok (.getfield 10, 3) := by decide +kernel
theorem dX11_think_43 : decode cX11_think 43 = .ok (.iload_n 1, 1) := by decide +kernel
theorem dX11_think_44 : decode cX11_think 44 = .ok (.invokevirtual 90, 3) := by decide +kernel
theorem dX11_think_47 : decode cX11_think 47 = .ok (.istore_n 3, 1) := by decide +kernel
theorem dX11_think_48 : decode cX11_think 48 = .ok (.aload_n 0, 1) := by decide +kernel
theorem dX11_think_49 : decode cX11_think 49 = .ok (.getfield 10, 3) := by decide +kernel
theorem dX11_think_52 : decode cX11_think 52 = .ok (.getfield 108, 3) := by decide +kernel
theorem dX11_think_55 : decode cX11_think 55 = .ok (.iload_n 1, 1) := by decide +kernel
theorem dX11_think_56 : decode cX11_think 56 = .ok (.iload_n 2, 1) := by decide +kernel
theorem dX11_think_57 : decode cX11_think 57 = .ok (.iastore, 1) := by decide +kernel
theorem dX11_think_58 : decode cX11_think 58 = .ok (.iload_n 3, 1) := by decide +kernel
theorem dX11_think_59 : decode cX11_think 59 = .ok (.ireturn, 1) := by decide +kernel
set_option maxRecDepth 20000 in
theorem ggX11_pay_X4_hasFit : GoodIn wsX11_pay wsX4_hasFit := goodIn_r _ [11, 12, 13, 99, 100, 101, 102, 103, 104, 105, 106, 107] (by decide +kernel) (by decide +kernel)
set_option maxRecDepth 20000 in
theorem gX11_pay_X4_hasFit : GoodIn wsX11_pay (wsV RX11 111 RX4 yX4_hasFit wsX4_hasFit) := goodIn_app (goodIn_of _ (by decide +kernel)) ggX11_pay_X4_hasFit
set_option maxRecDepth 20000 in
theorem ggX11_pay_X4_hasMark : GoodIn wsX11_pay wsX4_hasMark := goodIn_r _ [17, 13, 99, 100, 101, 102, 103, 104, 105, 106, 107] (by decide +kernel) (by decide +kernel)
set_option maxRecDepth 20000 in
theorem gX11_pay_X4_hasMark : GoodIn wsX11_pay (wsV RX11 87 RX4 yX4_hasMark wsX4_hasMark) := goodIn_app (goodIn_of _ (by decide +kernel)) ggX11_pay_X4_hasMark
set_option maxRecDepth 20000 in
theorem ggX11_pay_X11_isBit : GoodIn wsX11_pay wsX11_isBit := goodIn_r _ [21] (by decide +kernel) (by decide +kernel)
set_option maxRecDepth 20000 in
theorem gX11_pay_X11_isBit : GoodIn wsX11_pay (va_wsS RX11 101 yX11_isBit wsX11_isBit) := goodIn_app (goodIn_of _ (by decide +kernel)) ggX11_pay_X11_isBit
set_option maxRecDepth 20000 in
theorem ggX11_pay_X7_weigh : GoodIn wsX11_pay wsX7_weigh := goodIn_r _ [26, 27, 28, 29, 30, 31, 32, 33, 34, 25, 35, 36, 37, 38, 39, 40, 41, 42, 43, 44, 45, 46, 47, 48, 49, 50, 51, 52, 53, 54, 55, 56, 57, 10, 58, 12, 59, 60, 61, 62, 63, 64, 65, 66, 67, 85, 86, 87, 88, 89, 90, 91, 92, 93, 94, 95, 96, 97, 98, 99, 100, 101, 102, 103, 104, 105, 106, 107] (by decide +kernel) (by decide +kernel)
set_option maxRecDepth 20000 in
theorem gX11_pay_X7_weigh : GoodIn wsX11_pay (wsV RX11 116 RX7 yX7_weigh wsX7_weigh) := goodIn_app (goodIn_of _ (by decide +kernel)) ggX11_pay_X7_weigh
set_option maxRecDepth 20000 in
theorem ggX11_pay_X11_inLeastTerms : GoodIn wsX11_pay wsX11_inLeastTerms := goodIn_r _ [70, 71, 72, 66, 73, 3, 74, 75, 20, 76] (by decide +kernel) (by decide +kernel)
set_option maxRecDepth 20000 in
theorem gX11_pay_X11_inLeastTerms : GoodIn wsX11_pay (va_wsS RX11 127 yX11_inLeastTerms wsX11_inLeastTerms) := goodIn_app (goodIn_of _ (by decide +kernel)) ggX11_pay_X11_inLeastTerms
theorem dX11_pay_0 : decode cX11_pay 0 = .ok (.aload_n 0, 1) := by decide +kernel
theorem dX11_pay_1 : decode cX11_pay 1 = .ok (.getfield 70, 3) := by decide +kernel
theorem dX11_pay_4 : decode cX11_pay 4 = .ok (.ifCond .eq 32, 3) := by decide +kernel
theorem dX11_pay_7 : decode cX11_pay 7 = .ok (.aload_n 0, 1) := by decide +kernel
theorem dX11_pay_8 : decode cX11_pay 8 = .ok (.getfield 10, 3) := by decide +kernel
theorem dX11_pay_11 : decode cX11_pay 11 = .ok (.iload_n 1, 1) := by decide +kernel
theorem dX11_pay_12 : decode cX11_pay 12 = .ok (.invokevirtual 111, 3) := by decide +kernel
theorem dX11_pay_15 : decode cX11_pay 15 = .ok (.ifCond .eq 21, 3) := by decide +kernel
theorem dX11_pay_18 : decode cX11_pay 18 = .ok (.aload_n 0, 1) := by decide +kernel
theorem dX11_pay_19 : decode cX11_pay 19 = .ok (.getfield 10, 3) := by decide +kernel
theorem dX11_pay_22 : decode cX11_pay 22 = .ok (.iload_n 2, 1) := by decide +kernel
theorem dX11_pay_23 : decode cX11_pay 23 = .ok (.invokevirtual 87, 3) := by decide +kernel
theorem dX11_pay_26 : decode cX11_pay 26 = .ok (.ifCond .eq 10, 3) := by decide +kernel
theorem dX11_pay_29 : decode cX11_pay 29 = .ok (.iload_n 3, 1) := by decide +kernel
theorem dX11_pay_30 : decode cX11_pay 30 = .ok (.invokestatic 101, 3) := by decide +kernel
theorem dX11_pay_33 : decode cX11_pay 33 = .ok (.ifCond .ne 7, 3) := by decide +kernel
theorem dX11_pay_36 : decode cX11_pay 36 = .ok (.ldc2_w 114, 3) := by decide +kernel
theorem dX11_pay_39 : decode cX11_pay 39 = .ok (.lreturn, 1) := by decide +kernel
theorem dX11_pay_40 : decode cX11_pay 40 = .ok (.aload_n 0, 1) := by decide +kernel
theorem dX11_pay_41 : decode cX11_pay 41 = .ok (.getfield 31, 3) := by decide +kernel
theorem dX11_pay_44 : decode cX11_pay 44 = .ok (.iload_n 1, 1) := by decide +kernel
theorem dX11_pay_45 : decode cX11_pay 45 = .ok (.invokevirtual 116, 3) := by decide +kernel
theorem dX11_pay_48 : decode cX11_pay 48 = .ok (.aload_n 0, 1) := by decide +kernel
theorem dX11_pay_49 : decode cX11_pay 49 = .ok (.getfield 31, 3) := by decide +kernel
theorem dX11_pay_52 : decode cX11_pay 52 = .ok (.getfield 120, 3) := by decide +kernel
theorem dX11_pay_55 : decode cX11_pay 55 = .ok (.iload_n 2, 1) := by decide +kernel
theorem dX11_pay_56 : decode cX11_pay 56 = .ok (.laload, 1) := by decide +kernel
theorem dX11_pay_57 : decode cX11_pay 57 = .ok (.aload_n 0, 1) := by decide +kernel
theorem dX11_pay_58 : decode cX11_pay 58 = .ok (.getfield 31, 3) := by decide +kernel
theorem dX11_pay_61 : decode cX11_pay 61 = .ok (.getfield 124, 3) := by decide +kernel
theorem dX11_pay_64 : decode cX11_pay 64 = .ok (.iload_n 2, 1) := by decide +kernel
theorem dX11_pay_65 : decode cX11_pay 65 = .ok (.laload, 1) := by decide +kernel
theorem dX11_pay_66 : decode cX11_pay 66 = .ok (.iload_n 3, 1) := by decide +kernel
theorem dX11_pay_67 : decode cX11_pay 67 = .ok (.invokestatic 127, 3) := by decide +kernel
theorem dX11_pay_70 : decode cX11_pay 70 = .ok (.lreturn, 1) := by decide +kernel
set_option maxRecDepth 20000 in
theorem ggX11_gets_X4_hasFit : GoodIn wsX11_gets wsX4_hasFit := goodIn_r _ [9, 10, 11, 103, 104, 105, 106, 107, 108, 109, 110, 111] (by decide +kernel) (by decide +kernel)
set_option maxRecDepth 20000 in
theorem gX11_gets_X4_hasFit : GoodIn wsX11_gets (wsV RX11 111 RX4 yX4_hasFit wsX4_hasFit) := goodIn_app (goodIn_of _ (by decide +kernel)) ggX11_gets_X4_hasFit
set_option maxRecDepth 20000 in
theorem ggX11_gets_X4_hasSort : GoodIn wsX11_gets wsX4_hasSort := goodIn_r _ [15, 10, 103, 104, 105, 106, 107, 108, 109, 110, 111] (by decide +kernel) (by decide +kernel)
set_option maxRecDepth 20000 in
theorem gX11_gets_X4_hasSort : GoodIn wsX11_gets (wsV RX11 74 RX4 yX4_hasSort wsX4_hasSort) := goodIn_app (goodIn_of _ (by decide +kernel)) ggX11_gets_X4_hasSort
set_option maxRecDepth 20000 in
theorem ggX11_gets_X11_isBit : GoodIn wsX11_gets wsX11_isBit := goodIn_r _ [19] (by decide +kernel) (by decide +kernel)
set_option maxRecDepth 20000 in
theorem gX11_gets_X11_isBit : GoodIn wsX11_gets (va_wsS RX11 101 yX11_isBit wsX11_isBit) := goodIn_app (goodIn_of _ (by decide +kernel)) ggX11_gets_X11_isBit
set_option maxRecDepth 20000 in
theorem ggX11_gets_X7_weigh : GoodIn wsX11_gets wsX7_weigh := goodIn_r _ [24, 25, 26, 27, 28, 29, 30, 31, 32, 23, 33, 34, 35, 36, 37, 38, 39, 40, 41, 42, 43, 44, 45, 46, 47, 48, 49, 50, 51, 52, 53, 13, 14, 8, 15, 10, 54, 55, 56, 57, 58, 59, 60, 61, 62, 112, 113, 114, 115, 116, 117, 118, 119, 120, 121, 122, 123, 124, 125, 103, 104, 105, 106, 107, 108, 109, 110, 111] (by decide +kernel) (by decide +kernel)
set_option maxRecDepth 20000 in
theorem gX11_gets_X7_weigh : GoodIn wsX11_gets (wsV RX11 116 RX7 yX7_weigh wsX7_weigh) := goodIn_app (goodIn_of _ (by decide +kernel)) ggX11_gets_X7_weigh
set_option maxRecDepth 20000 in
theorem ggX11_gets_X7_ownTop : GoodIn wsX11_gets wsX7_ownTop := goodIn_r _ [66, 36, 67, 68, 69, 23, 70, 71, 25, 72, 73, 74, 75, 76, 77, 27, 46, 28, 29, 112, 113, 114, 115, 116, 117, 118, 119, 120, 121, 122, 123, 124, 125, 103, 104, 105, 106, 107, 108, 109, 110, 111] (by decide +kernel) (by decide +kernel)
set_option maxRecDepth 20000 in
theorem gX11_gets_X7_ownTop : GoodIn wsX11_gets (wsV RX11 131 RX7 yX7_ownTop wsX7_ownTop) := goodIn_app (goodIn_of _ (by decide +kernel)) ggX11_gets_X7_ownTop
set_option maxRecDepth 20000 in
theorem ggX11_gets_X7_ownUnder : GoodIn wsX11_gets wsX7_ownUnder := goodIn_r _ [81, 36, 82, 83, 84, 23, 85, 76, 29, 112, 113, 114, 115, 116, 117, 118, 119, 120, 121, 122, 123, 124, 125] (by decide +kernel) (by decide +kernel)
set_option maxRecDepth 20000 in
theorem gX11_gets_X7_ownUnder : GoodIn wsX11_gets (wsV RX11 135 RX7 yX7_ownUnder wsX7_ownUnder) := goodIn_app (goodIn_of _ (by decide +kernel)) ggX11_gets_X7_ownUnder
set_option maxRecDepth 20000 in
theorem ggX11_gets_X11_inLeastTerms : GoodIn wsX11_gets wsX11_inLeastTerms := goodIn_r _ [88, 89, 90, 61, 91, 3, 92, 93, 18, 94] (by decide +kernel) (by decide +kernel)
set_option maxRecDepth 20000 in
theorem gX11_gets_X11_inLeastTerms : GoodIn wsX11_gets (va_wsS RX11 127 yX11_inLeastTerms wsX11_inLeastTerms) := goodIn_app (goodIn_of _ (by decide +kernel)) ggX11_gets_X11_inLeastTerms
theorem dX11_gets_0 : decode cX11_gets 0 = .ok (.aload_n 0, 1) := by decide +kernel
theorem dX11_gets_1 : decode cX11_gets 1 = .ok (.getfield 70, 3) := by decide +kernel
theorem dX11_gets_4 : decode cX11_gets 4 = .ok (.ifCond .eq 32, 3) := by decide +kernel
theorem dX11_gets_7 : decode cX11_gets 7 = .ok (.aload_n 0, 1) := by decide +kernel
theorem dX11_gets_8 : decode cX11_gets 8 = .ok (.getfield 10, 3) := by decide +kernel
theorem dX11_gets_11 : decode cX11_gets 11 = .ok (.iload_n 1, 1) := by decide +kernel
theorem dX11_gets_12 : decode cX11_gets 12 = .ok (.invokevirtual 111, 3) := by decide +kernel
theorem dX11_gets_15 : decode cX11_gets 15 = .ok (.ifCond .eq 21, 3) := by decide +kernel
theorem dX11_gets_18 : decode cX11_gets 18 = .ok (.aload_n 0, 1) := by decide +kernel
theorem dX11_gets_19 : decode cX11_gets 19 = .ok (.getfield 10, 3) := by decide +kernel
theorem dX11_gets_22 : decode cX11_gets 22 = .ok (.iload_n 2, 1) := by decide +kernel
theorem dX11_gets_23 : decode cX11_gets 23 = .ok (.invokevirtual 74, 3) := by decide +kernel
theorem dX11_gets_26 : decode cX11_gets 26 = .ok (.ifCond .eq 10, 3) := by decide +kernel
theorem dX11_gets_29 : decode cX11_gets 29 = .ok (.iload_n 3, 1) := by decide +kernel
theorem dX11_gets_30 : decode cX11_gets 30 = .ok (.invokestatic 101, 3) := by decide +kernel
theorem dX11_gets_33 : decode cX11_gets 33 = .ok (.ifCond .ne 7, 3) := by decide +kernel
theorem dX11_gets_36 : decode cX11_gets 36 = .ok (.ldc2_w 114, 3) := by decide +kernel
theorem dX11_gets_39 : decode cX11_gets 39 = .ok (.lreturn, 1) := by decide +kernel
theorem dX11_gets_40 : decode cX11_gets 40 = .ok (.aload_n 0, 1) := by decide +kernel
theorem dX11_gets_41 : decode cX11_gets 41 = .ok (.getfield 31, 3) := by decide +kernel
theorem dX11_gets_44 : decode cX11_gets 44 = .ok (.iload_n 1, 1) := by decide +kernel
theorem dX11_gets_45 : decode cX11_gets 45 = .ok (.invokevirtual 116, 3) := by decide +kernel
theorem dX11_gets_48 : decode cX11_gets 48 = .ok (.aload_n 0, 1) := by decide +kernel
theorem dX11_gets_49 : decode cX11_gets 49 = .ok (.getfield 31, 3) := by decide +kernel
theorem dX11_gets_52 : decode cX11_gets 52 = .ok (.iload_n 2, 1) := by decide +kernel
theorem dX11_gets_53 : decode cX11_gets 53 = .ok (.invokevirtual 131, 3) := by decide +kernel
theorem dX11_gets_56 : decode cX11_gets 56 = .ok (.aload_n 0, 1) := by decide +kernel
theorem dX11_gets_57 : decode cX11_gets 57 = .ok (.getfield 31, 3) := by decide +kernel
theorem dX11_gets_60 : decode cX11_gets 60 = .ok (.iload_n 2, 1) := by decide +kernel
theorem dX11_gets_61 : decode cX11_gets 61 = .ok (.invokevirtual 135, 3) := by decide +kernel
theorem dX11_gets_64 : decode cX11_gets 64 = .ok (.iload_n 3, 1) := by decide +kernel
theorem dX11_gets_65 : decode cX11_gets 65 = .ok (.invokestatic 127, 3) := by decide +kernel
theorem dX11_gets_68 : decode cX11_gets 68 = .ok (.lreturn, 1) := by decide +kernel
set_option maxRecDepth 20000 in
theorem ggX11_rather_X11_fitFault : GoodIn wsX11_rather wsX11_fitFault := goodIn_r _ [6, 7, 8, 9, 10, 11, 12, 13, 14, 15, 86, 87, 88, 89, 90, 91, 92, 93, 94, 95, 96, 97, 98, 99, 100, 101, 102] (by decide +kernel) (by decide +kernel)
set_option maxRecDepth 20000 in
theorem gX11_rather_X11_fitFault : GoodIn wsX11_rather (wsV RX11 138 RX11 yX11_fitFault wsX11_fitFault) := goodIn_app (goodIn_of _ (by decide +kernel)) ggX11_rather_X11_fitFault
set_option maxRecDepth 20000 in
theorem ggX11_rather_X7_weigh : GoodIn wsX11_rather wsX7_weigh := goodIn_r _ [20, 21, 22, 23, 24, 25, 26, 27, 28, 19, 29, 30, 31, 32, 33, 34, 35, 36, 37, 38, 39, 40, 41, 42, 43, 44, 45, 46, 47, 48, 49, 50, 51, 12, 52, 14, 53, 54, 55, 56, 57, 58, 59, 60, 61, 103, 104, 105, 106, 107, 108, 109, 110, 111, 112, 113, 114, 115, 116, 94, 95, 96, 97, 98, 99, 100, 101, 102] (by decide +kernel) (by decide +kernel)
set_option maxRecDepth 20000 in
theorem gX11_rather_X7_weigh : GoodIn wsX11_rather (wsV RX11 116 RX7 yX7_weigh wsX7_weigh) := goodIn_app (goodIn_of _ (by decide +kernel)) ggX11_rather_X7_weigh
set_option maxRecDepth 20000 in
theorem ggX11_rather_X7_firstRather : GoodIn wsX11_rather wsX7_firstRather := goodIn_r _ [65, 21, 31, 66, 67, 68, 19, 69, 32, 22, 70, 71, 72, 73, 74, 75, 76, 77, 78, 79, 80, 81, 23, 42, 24, 25, 82, 83, 84, 85, 103, 104, 105, 106, 107, 108, 109, 110, 111, 112, 113, 114, 115, 116, 94, 95, 96, 97, 98, 99, 100, 101, 102] (by decide +kernel) (by decide +kernel)
set_option maxRecDepth 20000 in
theorem gX11_rather_X7_firstRather : GoodIn wsX11_rather (wsV RX11 141 RX7 yX7_firstRather wsX7_firstRather) := goodIn_app (goodIn_of _ (by decide +kernel)) ggX11_rather_X7_firstRather
theorem dX11_rather_0 : decode cX11_rather 0 = .ok (.aload_n 0, 1) := by decide +kernel
theorem dX11_rather_1 : decode cX11_rather 1 = .ok (.iload_n 1, 1) := by decide +kernel
theorem dX11_rather_2 : decode cX11_rather 2 = .ok (.invokevirtual 138, 3) := by decide +kernel
theorem dX11_rather_5 : decode cX11_rather 5 = .ok (.istore_n 2, 1) := by decide +kernel
theorem dX11_rather_6 : decode cX11_rather 6 = .ok (.iload_n 2, 1) := by decide +kernel
theorem dX11_rather_7 : decode cX11_rather 7 = .ok (.ifCond .eq 5, 3) := by decide +kernel
theorem dX11_rather_10 : decode cX11_rather 10 = .ok (.iload_n 2, 1) := by decide +kernel
theorem dX11_rather_11 : decode cX11_rather 11 = .ok (.ireturn, 1) := by decide +kernel
theorem dX11_rather_12 : decode cX11_rather 12 = .ok (.aload_n 0, 1) := by decide +kernel
theorem dX11_rather_13 : decode cX11_rather 13 = .ok (.getfield 31, 3) := by decide +kernel
theorem dX11_rather_16 : decode cX11_rather 16 = .ok (.iload_n 1, 1) := by decide +kernel
theorem dX11_rather_17 : decode cX11_rather 17 = .ok (.invokevirtual 116, 3) := by decide +kernel
theorem dX11_rather_20 : decode cX11_rather 20 = .ok (.aload_n 0, 1) := by decide +kernel
theorem dX11_rather_21 : decode cX11_rather 21 = .ok (.getfield 31, 3) := by decide +kernel
theorem dX11_rather_24 : decode cX11_rather 24 = .ok (.invokevirtual 141, 3) := by decide +kernel
theorem dX11_rather_27 : decode cX11_rather 27 = .ok (.ireturn, 1) := by decide +kernel
set_option maxRecDepth 20000 in
theorem ggX11_next_X4_fitNumbers : GoodIn wsX11_next wsX4_fitNumbers := goodIn_r _ [7, 8, 102, 103, 104, 105, 106, 107, 108, 109, 110] (by decide +kernel) (by decide +kernel)
set_option maxRecDepth 20000 in
theorem gX11_next_X4_fitNumbers : GoodIn wsX11_next (wsV RX11 145 RX4 yX4_fitNumbers wsX4_fitNumbers) := goodIn_app (goodIn_of _ (by decide +kernel)) ggX11_next_X4_fitNumbers
set_option maxRecDepth 20000 in
theorem ggX11_next_X11_isSureFit : GoodIn wsX11_next wsX11_isSureFit := goodIn_r _ [13, 2, 14, 15, 16, 17, 6, 18, 8, 19, 20, 21, 22, 23, 24, 25, 26, 27, 28, 29, 30, 31, 32, 33, 34, 35, 36, 37, 38, 39, 40, 41, 42, 43, 44, 45, 46, 47, 48, 49, 50, 51, 52, 53, 54, 55, 56, 57, 58, 59, 60, 61, 62, 63, 64, 65, 66, 67, 68, 69, 70, 71, 72, 73, 74, 75, 76, 77, 78, 79, 80, 81, 82, 83, 84, 85, 86, 87, 88, 89, 90, 91, 92, 93, 94, 95, 96, 97, 98, 99, 100, 101, 102, 103, 104, 105, 106, 107, 108, 109, 110, 111, 112, 113, 114, 115, 116, 117, 118, 119, 120, 121, 122, 123, 124] (by decide +kernel) (by decide +kernel)
set_option maxRecDepth 20000 in
theorem gX11_next_X11_isSureFit : GoodIn wsX11_next (wsV RX11 148 RX11 yX11_isSureFit wsX11_isSureFit) := goodIn_app (goodIn_of _ (by decide +kernel)) ggX11_next_X11_isSureFit
theorem dX11_next_0 : decode cX11_next 0 = .ok (.aload_n 0, 1) := by decide +kernel
theorem dX11_next_1 : decode cX11_next 1 = .ok (.getfield 70, 3) := by decide +kernel
theorem dX11_next_4 : decode cX11_next 4 = .ok (.ifCond .ne 6, 3) := by decide +kernel
theorem dX11_next_7 : decode cX11_next 7 = .ok (.bipush (-3), 2) := by decide +kernel
theorem dX11_next_9 : decode cX11_next 9 = .ok (.ireturn, 1) := by decide +kernel
theorem dX11_next_10 : decode cX11_next 10 = .ok (.iload_n 1, 1) := by decide +kernel
theorem dX11_next_11 : decode cX11_next 11 = .ok (.iconst (-1), 1) := by decide +kernel
theorem dX11_next_12 : decode cX11_next 12 = .ok (.if_icmp .ge 5, 3) := by decide +kernel
theorem dX11_next_15 : decode cX11_next 15 = .ok (.iconst (-1), 1) := by decide +kernel
theorem dX11_next_16 : decode cX11_next 16 = .ok (.ireturn, 1) := by decide +kernel
theorem dX11_next_17 : decode cX11_next 17 = .ok (.aload_n 0, 1) := by decide +kernel
theorem dX11_next_18 : decode cX11_next 18 = .ok (.getfield 10, 3) := by decide +kernel
theorem dX11_next_21 : decode cX11_next 21 = .ok (.invokevirtual 145, 3) := by decide +kernel
theorem dX11_next_24 : decode cX11_next 24 = .ok (.istore_n 2, 1) := by decide +kernel
theorem dX11_next_25 : decode cX11_next 25 = .ok (.iload_n 1, 1) := by decide +kernel
theorem dX11_next_26 : decode cX11_next 26 = .ok (.iload_n 2, 1) := by decide +kernel
theorem dX11_next_27 : decode cX11_next 27 = .ok (.if_icmp .lt 6, 3) := by decide +kernel
theorem dX11_next_30 : decode cX11_next 30 = .ok (.bipush (-4), 2) := by decide +kernel
theorem dX11_next_32 : decode cX11_next 32 = .ok (.ireturn, 1) := by decide +kernel
theorem dX11_next_33 : decode cX11_next 33 = .ok (.iload_n 1, 1) := by decide +kernel
theorem dX11_next_34 : decode cX11_next 34 = .ok (.iconst 1, 1) := by decide +kernel
theorem dX11_next_35 : decode cX11_next 35 = .ok (.iadd, 1) := by decide +kernel
theorem dX11_next_36 : decode cX11_next 36 = .ok (.istore_n 3, 1) := by decide +kernel
theorem dX11_next_37 : decode cX11_next 37 = .ok (.iload_n 3, 1) := by decide +kernel
theorem dX11_next_38 : decode cX11_next 38 = .ok (.iload_n 2, 1) := by decide +kernel
theorem dX11_next_39 : decode cX11_next 39 = .ok (.if_icmp .ge 19, 3) := by decide +kernel
theorem dX11_next_42 : decode cX11_next 42 = .ok (.aload_n 0, 1) := by decide +kernel
theorem dX11_next_43 : decode cX11_next 43 = .ok (.iload_n 3, 1) := by decide +kernel
theorem dX11_next_44 : decode cX11_next 44 = .ok (.invokevirtual 148, 3) := by decide +kernel
theorem dX11_next_47 : decode cX11_next 47 = .ok (.ifCond .eq 5, 3) := by decide +kernel
theorem dX11_next_50 : decode cX11_next 50 = .ok (.iload_n 3, 1) := by decide +kernel
theorem dX11_next_51 : decode cX11_next 51 = .ok (.ireturn, 1) := by decide +kernel
theorem dX11_next_52 : decode cX11_next 52 = .ok (.iinc 3 1, 3) := by decide +kernel
theorem dX11_next_55 : decode cX11_next 55 = .ok (.goto (-18), 3) := by decide +kernel
theorem dX11_next_58 : decode cX11_next 58 = .ok (.bipush (-4), 2) := by decide +kernel
theorem dX11_next_60 : decode cX11_next 60 = .ok (.ireturn, 1) := by decide +kernel
set_option maxRecDepth 20000 in
theorem ggX11_all_X4_fitNumbers : GoodIn wsX11_all wsX4_fitNumbers := goodIn_r _ [9, 10, 148, 149, 150, 151, 152, 153, 154, 155, 156] (by decide +kernel) (by decide +kernel)
set_option maxRecDepth 20000 in
theorem gX11_all_X4_fitNumbers : GoodIn wsX11_all (wsV RX11 145 RX4 yX4_fitNumbers wsX4_fitNumbers) := goodIn_app (goodIn_of _ (by decide +kernel)) ggX11_all_X4_fitNumbers
set_option maxRecDepth 20000 in
theorem ggX11_all_X11_isSureFit : GoodIn wsX11_all wsX11_isSureFit := goodIn_r _ [15, 4, 2, 16, 17, 18, 8, 19, 10, 20, 21, 22, 23, 24, 25, 26, 27, 28, 29, 30, 31, 32, 33, 34, 35, 36, 37, 38, 39, 40, 41, 42, 43, 44, 45, 46, 47, 48, 49, 50, 51, 52, 53, 54, 55, 56, 57, 58, 59, 60, 61, 62, 63, 64, 65, 66, 67, 68, 69, 70, 71, 72, 73, 74, 75, 76, 77, 78, 79, 80, 81, 82, 83, 84, 85, 86, 87, 88, 89, 90, 91, 92, 93, 94, 126, 127, 128, 129, 130, 131, 132, 133, 148, 149, 150, 151, 152, 153, 154, 155, 156, 134, 135, 136, 137, 138, 139, 140, 141, 142, 143, 144, 145, 146, 147] (by decide +kernel) (by decide +kernel)
set_option maxRecDepth 20000 in
theorem gX11_all_X11_isSureFit : GoodIn wsX11_all (wsV RX11 148 RX11 yX11_isSureFit wsX11_isSureFit) := goodIn_app (goodIn_of _ (by decide +kernel)) ggX11_all_X11_isSureFit
set_option maxRecDepth 20000 in
theorem ggX11_all_X7_fallsBy : GoodIn wsX11_all wsX7_fallsBy := goodIn_r _ [98, 26, 27, 38, 39, 40, 24, 41, 35, 99, 100, 101, 102, 36, 47, 29, 86, 103, 104, 105, 106, 107, 108, 109, 110, 111, 112, 113, 8, 114, 10, 62, 115, 116, 65, 117, 118, 119, 120, 121, 37, 91, 92, 93, 94, 89, 30, 122, 123, 124, 125, 80, 81, 82, 83, 84, 85, 87, 88, 90, 28, 134, 135, 136, 137, 138, 139, 140, 141, 142, 143, 144, 145, 146, 147, 148, 149, 150, 151, 152, 153, 154, 155, 156] (by decide +kernel) (by decide +kernel)
set_option maxRecDepth 20000 in
theorem gX11_all_X7_fallsBy : GoodIn wsX11_all (wsV RX11 154 RX7 yX7_fallsBy wsX7_fallsBy) := goodIn_app (goodIn_of _ (by decide +kernel)) ggX11_all_X7_fallsBy
theorem dX11_all_0 : decode cX11_all 0 = .ok (.aload_n 0, 1) := by decide +kernel
theorem dX11_all_1 : decode cX11_all 1 = .ok (.getfield 70, 3) := by decide +kernel
theorem dX11_all_4 : decode cX11_all 4 = .ok (.ifCond .ne 6, 3) := by decide +kernel
theorem dX11_all_7 : decode cX11_all 7 = .ok (.bipush (-3), 2) := by decide +kernel
theorem dX11_all_9 : decode cX11_all 9 = .ok (.ireturn, 1) := by decide +kernel
theorem dX11_all_10 : decode cX11_all 10 = .ok (.iload_n 1, 1) := by decide +kernel
theorem dX11_all_11 : decode cX11_all 11 = .ok (.ifCond .lt 8, 3) := by decide +kernel
theorem dX11_all_14 : decode cX11_all 14 = .ok (.iload_n 1, 1) := by decide +kernel
theorem dX11_all_15 : decode cX11_all 15 = .ok (.iconst 2, 1) := by decide +kernel
theorem dX11_all_16 : decode cX11_all 16 = .ok (.if_icmp .le 5, 3) := by decide +kernel
theorem dX11_all_19 : decode cX11_all 19 = .ok (.iconst (-1), 1) := by decide +kernel
theorem dX11_all_20 : decode cX11_all 20 = .ok (.ireturn, 1) := by decide +kernel
theorem dX11_all_21 : decode cX11_all 21 = .ok (.aload_n 0, 1) := by decide +kernel
theorem dX11_all_22 : decode cX11_all 22 = .ok (.getfield 31, 3) := by decide +kernel
theorem dX11_all_25 : decode cX11_all 25 = .ok (.iload_n 1, 1) := by decide +kernel
theorem dX11_all_26 : decode cX11_all 26 = .ok (.iconst 1, 1) := by decide +kernel
theorem dX11_all_27 : decode cX11_all 27 = .ok (.if_icmp .ne 7, 3) := by decide +kernel
theorem dX11_all_30 : decode cX11_all 30 = .ok (.iconst 1, 1) := by decide +kernel
theorem dX11_all_31 : decode cX11_all 31 = .ok (.goto 4, 3) := by decide +kernel
theorem dX11_all_34 : decode cX11_all 34 = .ok (.iconst 0, 1) := by decide +kernel
theorem dX11_all_35 : decode cX11_all 35 = .ok (.putfield 151, 3) := by decide +kernel
theorem dX11_all_38 : decode cX11_all 38 = .ok (.aload_n 0, 1) := by decide +kernel
theorem dX11_all_39 : decode cX11_all 39 = .ok (.getfield 10, 3) := by decide +kernel
theorem dX11_all_42 : decode cX11_all 42 = .ok (.invokevirtual 145, 3) := by decide +kernel
theorem dX11_all_45 : decode cX11_all 45 = .ok (.istore_n 2, 1) := by decide +kernel
theorem dX11_all_46 : decode cX11_all 46 = .ok (.iconst 0, 1) := by decide +kernel
theorem dX11_all_47 : decode cX11_all 47 = .ok (.istore_n 3, 1) := by decide +kernel
theorem dX11_all_48 : decode cX11_all 48 = .ok (.iconst 0, 1) := by decide +kernel
theorem dX11_all_49 : decode cX11_all 49 = .ok (.istore 4, 2) := by decide +kernel
theorem dX11_all_51 : decode cX11_all 51 = .ok (.iload 4, 2) := by decide +kernel
theorem dX11_all_53 : decode cX11_all 53 = .ok (.iload_n 2, 1) := by decide +kernel
theorem dX11_all_54 : decode cX11_all 54 = .ok (.if_icmp .ge 38, 3) := by decide +kernel
theorem dX11_all_57 : decode cX11_all 57 = .ok (.aload_n 0, 1) := by decide +kernel
theorem dX11_all_58 : decode cX11_all 58 = .ok (.iload 4, 2) := by decide +kernel
theorem dX11_all_60 : decode cX11_all 60 = .ok (.invokevirtual 148, 3) := by decide +kernel
theorem dX11_all_63 : decode cX11_all 63 = .ok (.ifCond .eq 23, 3) := by decide +kernel
theorem dX11_all_66 : decode cX11_all 66 = .ok (.iload_n 1, 1) := by decide +kernel
theorem dX11_all_67 : decode cX11_all 67 = .ok (.iconst 2, 1) := by decide +kernel
theorem dX11_all_68 : decode cX11_all 68 = .ok (.if_icmp .ne 15, 3) := by decide +kernel
theorem dX11_all_71 : decode cX11_all 71 = .ok (.aload_n 0, 1) := by decide +kernel
theorem dX11_all_72 : decode cX11_all 72 = .ok (.getfield 31, 3) := by decide +kernel
theorem dX11_all_75 : decode cX11_all 75 = .ok (.invokevirtual 154, 3) := by decide +kernel
theorem dX11_all_78 : decode cX11_all 78 = .ok (.bipush (-4), 2) := by decide +kernel
theorem dX11_all_80 : decode cX11_all 80 = .ok (.if_icmp .ne 6, 3) := by decide +kernel
theorem dX11_all_83 : decode cX11_all 83 = .ok (.iinc 3 1, 3) := by decide +kernel
theorem dX11_all_86 : decode cX11_all 86 = .ok (.iinc 4 1, 3) := by decide +kernel
theorem dX11_all_89 : decode cX11_all 89 = .ok (.goto (-38), 3) := by decide +kernel
theorem dX11_all_92 : decode cX11_all 92 = .ok (.aload_n 0, 1) := by decide +kernel
theorem dX11_all_93 : decode cX11_all 93 = .ok (.getfield 31, 3) := by decide +kernel
theorem dX11_all_96 : decode cX11_all 96 = .ok (.iconst 0, 1) := by decide +kernel
theorem dX11_all_97 : decode cX11_all 97 = .ok (.putfield 151, 3) := by decide +kernel
theorem dX11_all_100 : decode cX11_all 100 = .ok (.iload_n 3, 1) := by decide +kernel
theorem dX11_all_101 : decode cX11_all 101 = .ok (.ireturn, 1) := by decide +kernel
set_option maxRecDepth 20000 in
theorem ggX11_falls_X11_sureFitFault : GoodIn wsX11_falls wsX11_sureFitFault := goodIn_r _ [6, 7, 8, 9, 5, 10, 11, 12, 13, 14, 15, 16, 17, 18, 19, 20, 21, 22, 23, 1, 24, 25, 26, 27, 28, 29, 30, 31, 32, 33, 34, 35, 36, 37, 38, 39, 40, 41, 42, 43, 44, 45, 46, 47, 48, 49, 50, 51, 52, 53, 54, 55, 56, 57, 58, 59, 60, 61, 62, 63, 64, 65, 66, 67, 68, 69, 70, 71, 72, 73, 74, 75, 76, 77, 78, 79, 80, 81, 82, 83, 84, 85, 86, 87, 88, 89, 90, 91, 92, 93, 94, 95, 96, 97, 129, 130, 131, 132, 133, 134, 135, 136, 137, 138, 139, 140, 141, 142, 143, 144, 145, 146, 147, 148, 149, 150, 151, 152, 153, 154, 155, 156, 157, 158, 159] (by decide +kernel) (by decide +kernel)
set_option maxRecDepth 20000 in
theorem gX11_falls_X11_sureFitFault : GoodIn wsX11_falls (wsV RX11 157 RX11 yX11_sureFitFault wsX11_sureFitFault) := goodIn_app (goodIn_of _ (by decide +kernel)) ggX11_falls_X11_sureFitFault
set_option maxRecDepth 20000 in
theorem ggX11_falls_X7_fallsBy : GoodIn wsX11_falls wsX7_fallsBy := goodIn_r _ [101, 29, 30, 41, 42, 43, 27, 44, 38, 102, 103, 104, 105, 39, 50, 32, 89, 106, 107, 108, 109, 110, 111, 112, 113, 114, 115, 116, 16, 117, 18, 65, 118, 119, 68, 120, 121, 122, 123, 124, 40, 94, 95, 96, 97, 92, 33, 125, 126, 127, 128, 83, 84, 85, 86, 87, 88, 90, 91, 93, 31, 146, 147, 148, 149, 150, 151, 152, 153, 154, 155, 156, 157, 158, 159, 137, 138, 139, 140, 141, 142, 143, 144, 145] (by decide +kernel) (by decide +kernel)
set_option maxRecDepth 20000 in
theorem gX11_falls_X7_fallsBy : GoodIn wsX11_falls (wsV RX11 154 RX7 yX7_fallsBy wsX7_fallsBy) := goodIn_app (goodIn_of _ (by decide +kernel)) ggX11_falls_X7_fallsBy
theorem dX11_falls_0 : decode cX11_falls 0 = .ok (.aload_n 0, 1) := by decide +kernel
theorem dX11_falls_1 : decode cX11_falls 1 = .ok (.iload_n 1, 1) := by decide +kernel
theorem dX11_falls_2 : decode cX11_falls 2 = .ok (.invokevirtual 157, 3) := by decide +kernel
theorem dX11_falls_5 : decode cX11_falls 5 = .ok (.istore_n 2, 1) := by decide +kernel
theorem dX11_falls_6 : decode cX11_falls 6 = .ok (.iload_n 2, 1) := by decide +kernel
theorem dX11_falls_7 : decode cX11_falls 7 = .ok (.ifCond .eq 7, 3) := by decide +kernel
theorem dX11_falls_10 : decode cX11_falls 10 = .ok (.iload_n 2, 1) := by decide +kernel
theorem dX11_falls_11 : decode cX11_falls 11 = .ok (.goto 10, 3) := by decide +kernel
theorem dX11_falls_14 : decode cX11_falls 14 = .ok (.aload_n 0, 1) := by decide +kernel
theorem dX11_falls_15 : decode cX11_falls 15 = .ok (.getfield 31, 3) := by decide +kernel
theorem dX11_falls_18 : decode cX11_falls 18 = .ok (.invokevirtual 154, 3) := by decide +kernel
theorem dX11_falls_21 : decode cX11_falls 21 = .ok (.ireturn, 1) := by decide +kernel
set_option maxRecDepth 20000 in
theorem ggX11_barred_X4_hasMark : GoodIn wsX11_barred wsX4_hasMark := goodIn_r _ [8, 9, 131, 132, 133, 134, 135, 136, 137, 138, 139] (by decide +kernel) (by decide +kernel)
set_option maxRecDepth 20000 in
theorem gX11_barred_X4_hasMark : GoodIn wsX11_barred (wsV RX11 87 RX4 yX4_hasMark wsX4_hasMark) := goodIn_app (goodIn_of _ (by decide +kernel)) ggX11_barred_X4_hasMark
set_option maxRecDepth 20000 in
theorem ggX11_barred_X4_hasSort : GoodIn wsX11_barred wsX4_hasSort := goodIn_r _ [13, 14, 131, 132, 133, 134, 135, 136, 137, 138, 139] (by decide +kernel) (by decide +kernel)
set_option maxRecDepth 20000 in
theorem gX11_barred_X4_hasSort : GoodIn wsX11_barred (wsV RX11 74 RX4 yX4_hasSort wsX4_hasSort) := goodIn_app (goodIn_of _ (by decide +kernel)) ggX11_barred_X4_hasSort
set_option maxRecDepth 20000 in
theorem ggX11_barred_X11_sureFitFault : GoodIn wsX11_barred wsX11_sureFitFault := goodIn_r _ [19, 20, 21, 22, 18, 23, 1, 2, 24, 25, 26, 7, 27, 14, 9, 28, 29, 30, 31, 3, 32, 33, 34, 35, 36, 37, 38, 39, 40, 41, 42, 43, 44, 45, 46, 47, 48, 49, 50, 51, 52, 53, 54, 55, 56, 57, 58, 59, 60, 61, 62, 63, 64, 65, 11, 12, 13, 66, 67, 68, 69, 70, 71, 72, 73, 74, 75, 76, 77, 78, 79, 80, 81, 82, 83, 84, 85, 86, 87, 88, 89, 90, 91, 92, 93, 94, 95, 96, 97, 98, 99, 100, 101, 102, 123, 124, 125, 126, 127, 128, 129, 130, 131, 132, 133, 134, 135, 136, 137, 138, 139, 140, 141, 142, 143, 144, 145, 146, 147, 148, 149, 150, 151, 152, 153] (by decide +kernel) (by decide +kernel)
set_option maxRecDepth 20000 in
theorem gX11_barred_X11_sureFitFault : GoodIn wsX11_barred (wsV RX11 157 RX11 yX11_sureFitFault wsX11_sureFitFault) := goodIn_app (goodIn_of _ (by decide +kernel)) ggX11_barred_X11_sureFitFault
set_option maxRecDepth 20000 in
theorem ggX11_barred_X7_isMade : GoodIn wsX11_barred wsX7_isMade := goodIn_r _ [52, 46, 140, 141, 142, 143, 144, 145, 146, 147, 148, 149, 150, 151, 152, 153] (by decide +kernel) (by decide +kernel)
set_option maxRecDepth 20000 in
theorem gX11_barred_X7_isMade : GoodIn wsX11_barred (wsV RX11 160 RX7 yX7_isMade wsX7_isMade) := goodIn_app (goodIn_of _ (by decide +kernel)) ggX11_barred_X7_isMade
set_option maxRecDepth 20000 in
theorem ggX11_barred_X7_isBarred : GoodIn wsX11_barred wsX7_isBarred := goodIn_r _ [107, 37, 40, 94, 108, 109, 110, 7, 111, 14, 70, 112, 113, 73, 114, 115, 116, 117, 35, 118, 48, 99, 100, 101, 102, 97, 41, 119, 120, 121, 122, 88, 89, 90, 91, 92, 93, 95, 96, 98, 39, 58, 140, 141, 142, 143, 144, 145, 146, 147, 148, 149, 150, 151, 152, 153, 131, 132, 133, 134, 135, 136, 137, 138, 139] (by decide +kernel) (by decide +kernel)
set_option maxRecDepth 20000 in
theorem gX11_barred_X7_isBarred : GoodIn wsX11_barred (wsV RX11 163 RX7 yX7_isBarred wsX7_isBarred) := goodIn_app (goodIn_of _ (by decide +kernel)) ggX11_barred_X7_isBarred
theorem dX11_barred_0 : decode cX11_barred 0 = .ok (.aload_n 0, 1) := by decide +kernel
theorem dX11_barred_1 : decode cX11_barred 1 = .ok (.getfield 70, 3) := by decide +kernel
theorem dX11_barred_4 : decode cX11_barred 4 = .ok (.ifCond .ne 6, 3) := by decide +kernel
theorem dX11_barred_7 : decode cX11_barred 7 = .ok (.bipush (-3), 2) := by decide +kernel
theorem dX11_barred_9 : decode cX11_barred 9 = .ok (.ireturn, 1) := by decide +kernel
theorem dX11_barred_10 : decode cX11_barred 10 = .ok (.aload_n 0, 1) := by decide +kernel
theorem dX11_barred_11 : decode cX11_barred 11 = .ok (.getfield 10, 3) := by decide +kernel
theorem dX11_barred_14 : decode cX11_barred 14 = .ok (.iload_n 2, 1) := by decide +kernel
theorem dX11_barred_15 : decode cX11_barred 15 = .ok (.invokevirtual 87, 3) := by decide +kernel
theorem dX11_barred_18 : decode cX11_barred 18 = .ok (.ifCond .eq 14, 3) := by decide +kernel
theorem dX11_barred_21 : decode cX11_barred 21 = .ok (.aload_n 0, 1) := by decide +kernel
theorem dX11_barred_22 : decode cX11_barred 22 = .ok (.getfield 10, 3) := by decide +kernel
theorem dX11_barred_25 : decode cX11_barred 25 = .ok (.iload_n 3, 1) := by decide +kernel
theorem dX11_barred_26 : decode cX11_barred 26 = .ok (.invokevirtual 74, 3) := by decide +kernel
theorem dX11_barred_29 : decode cX11_barred 29 = .ok (.ifCond .ne 5, 3) := by decide +kernel
theorem dX11_barred_32 : decode cX11_barred 32 = .ok (.iconst (-1), 1) := by decide +kernel
theorem dX11_barred_33 : decode cX11_barred 33 = .ok (.ireturn, 1) := by decide +kernel
theorem dX11_barred_34 : decode cX11_barred 34 = .ok (.aload_n 0, 1) := by decide +kernel
theorem dX11_barred_35 : decode cX11_barred 35 = .ok (.iload_n 1, 1) := by decide +kernel
theorem dX11_barred_36 : decode cX11_barred 36 = .ok (.invokevirtual 157, 3) := by decide +kernel
theorem dX11_barred_39 : decode cX11_barred 39 = .ok (.istore 4, 2) := by decide +kernel
theorem dX11_barred_41 : decode cX11_barred 41 = .ok (.iload 4, 2) := by decide +kernel
theorem dX11_barred_43 : decode cX11_barred 43 = .ok (.ifCond .eq 6, 3) := by decide +kernel
theorem dX11_barred_46 : decode cX11_barred 46 = .ok (.iload 4, 2) := by decide +kernel
theorem dX11_barred_48 : decode cX11_barred 48 = .ok (.ireturn, 1) := by decide +kernel
theorem dX11_barred_49 : decode cX11_barred 49 = .ok (.aload_n 0, 1) := by decide +kernel
theorem dX11_barred_50 : decode cX11_barred 50 = .ok (.getfield 31, 3) := by decide +kernel
theorem dX11_barred_53 : decode cX11_barred 53 = .ok (.iload_n 2, 1) := by decide +kernel
theorem dX11_barred_54 : decode cX11_barred 54 = .ok (.invokevirtual 160, 3) := by decide +kernel
theorem dX11_barred_57 : decode cX11_barred 57 = .ok (.ifCond .eq 6, 3) := by decide +kernel
theorem dX11_barred_60 : decode cX11_barred 60 = .ok (.bipush (-3), 2) := by decide +kernel
theorem dX11_barred_62 : decode cX11_barred 62 = .ok (.ireturn, 1) := by decide +kernel
theorem dX11_barred_63 : decode cX11_barred 63 = .ok (.aload_n 0, 1) := by decide +kernel
theorem dX11_barred_64 : decode cX11_barred 64 = .ok (.getfield 31, 3) := by decide +kernel
theorem dX11_barred_67 : decode cX11_barred 67 = .ok (.iload_n 2, 1) := by decide +kernel
theorem dX11_barred_68 : decode cX11_barred 68 = .ok (.iload_n 3, 1) := by decide +kernel
theorem dX11_barred_69 : decode cX11_barred 69 = .ok (.invokevirtual 163, 3) := by decide +kernel
theorem dX11_barred_72 : decode cX11_barred 72 = .ok (.ifCond .eq 7, 3) := by decide +kernel
theorem dX11_barred_75 : decode cX11_barred 75 = .ok (.iconst 1, 1) := by decide +kernel
theorem dX11_barred_76 : decode cX11_barred 76 = .ok (.goto 4, 3) := by decide +kernel
theorem dX11_barred_79 : decode cX11_barred 79 = .ok (.iconst 0, 1) := by decide +kernel
theorem dX11_barred_80 : decode cX11_barred 80 = .ok (.ireturn, 1) := by decide +kernel
set_option maxRecDepth 20000 in
theorem ggX11_lots_X4_hasFit : GoodIn wsX11_lots wsX4_hasFit := goodIn_r _ [11, 12, 13, 82, 83, 84, 85, 86, 87, 88, 89, 90] (by decide +kernel) (by decide +kernel)
set_option maxRecDepth 20000 in
theorem gX11_lots_X4_hasFit : GoodIn wsX11_lots (wsV RX11 111 RX4 yX4_hasFit wsX4_hasFit) := goodIn_app (goodIn_of _ (by decide +kernel)) ggX11_lots_X4_hasFit
set_option maxRecDepth 20000 in
theorem ggX11_lots_X4_hasSort : GoodIn wsX11_lots wsX4_hasSort := goodIn_r _ [17, 12, 82, 83, 84, 85, 86, 87, 88, 89, 90] (by decide +kernel) (by decide +kernel)
set_option maxRecDepth 20000 in
theorem gX11_lots_X4_hasSort : GoodIn wsX11_lots (wsV RX11 74 RX4 yX4_hasSort wsX4_hasSort) := goodIn_app (goodIn_of _ (by decide +kernel)) ggX11_lots_X4_hasSort
set_option maxRecDepth 20000 in
theorem ggX11_lots_X4_hasMark : GoodIn wsX11_lots wsX4_hasMark := goodIn_r _ [21, 13, 82, 83, 84, 85, 86, 87, 88, 89, 90] (by decide +kernel) (by decide +kernel)
set_option maxRecDepth 20000 in
theorem gX11_lots_X4_hasMark : GoodIn wsX11_lots (wsV RX11 87 RX4 yX4_hasMark wsX4_hasMark) := goodIn_app (goodIn_of _ (by decide +kernel)) ggX11_lots_X4_hasMark
set_option maxRecDepth 20000 in
theorem ggX11_lots_X11_isBit : GoodIn wsX11_lots wsX11_isBit := goodIn_r _ [25] (by decide +kernel) (by decide +kernel)
set_option maxRecDepth 20000 in
theorem gX11_lots_X11_isBit : GoodIn wsX11_lots (va_wsS RX11 101 yX11_isBit wsX11_isBit) := goodIn_app (goodIn_of _ (by decide +kernel)) ggX11_lots_X11_isBit
set_option maxRecDepth 20000 in
theorem ggX11_lots_X7_lay : GoodIn wsX11_lots wsX7_lay := goodIn_r _ [30, 31, 32, 33, 34, 68, 69, 70, 71, 72, 73, 74, 75, 76, 77, 78, 79, 80, 81, 82, 83, 84, 85, 86, 87, 88, 89, 90] (by decide +kernel) (by decide +kernel)
set_option maxRecDepth 20000 in
theorem gX11_lots_X7_lay : GoodIn wsX11_lots (wsV RX11 167 RX7 yX7_lay wsX7_lay) := goodIn_app (goodIn_of _ (by decide +kernel)) ggX11_lots_X7_lay
set_option maxRecDepth 20000 in
theorem ggX11_lots_X7_drawsLots : GoodIn wsX11_lots wsX7_drawsLots := goodIn_r _ [38, 34, 32, 39, 40, 41, 33, 42, 43, 44, 45, 46, 47, 48, 49, 50, 51, 29, 52, 31, 68, 69, 70, 71, 72, 73, 74, 75, 76, 77, 78, 79, 80, 81, 82, 83, 84, 85, 86, 87, 88, 89, 90] (by decide +kernel) (by decide +kernel)
set_option maxRecDepth 20000 in
theorem gX11_lots_X7_drawsLots : GoodIn wsX11_lots (wsV RX11 170 RX7 yX7_drawsLots wsX7_drawsLots) := goodIn_app (goodIn_of _ (by decide +kernel)) ggX11_lots_X7_drawsLots
set_option maxRecDepth 20000 in
theorem ggX11_lots_X11_inLeastTerms : GoodIn wsX11_lots wsX11_inLeastTerms := goodIn_r _ [55, 56, 45, 46, 47, 3, 57, 58, 24, 59] (by decide +kernel) (by decide +kernel)
set_option maxRecDepth 20000 in
theorem gX11_lots_X11_inLeastTerms : GoodIn wsX11_lots (va_wsS RX11 127 yX11_inLeastTerms wsX11_inLeastTerms) := goodIn_app (goodIn_of _ (by decide +kernel)) ggX11_lots_X11_inLeastTerms
theorem dX11_lots_0 : decode cX11_lots 0 = .ok (.aload_n 0, 1) := by decide +kernel
theorem dX11_lots_1 : decode cX11_lots 1 = .ok (.getfield 70, 3) := by decide +kernel
theorem dX11_lots_4 : decode cX11_lots 4 = .ok (.ifCond .eq 44, 3) := by decide +kernel
theorem dX11_lots_7 : decode cX11_lots 7 = .ok (.aload_n 0, 1) := by decide +kernel
theorem dX11_lots_8 : decode cX11_lots 8 = .ok (.getfield 10, 3) := by decide +kernel
theorem dX11_lots_11 : decode cX11_lots 11 = .ok (.iload_n 1, 1) := by decide +kernel
theorem dX11_lots_12 : decode cX11_lots 12 = .ok (.invokevirtual 111, 3) := by decide +kernel
theorem dX11_lots_15 : decode cX11_lots 15 = .ok (.ifCond .eq 33, 3) := by decide +kernel
theorem dX11_lots_18 : decode cX11_lots 18 = .ok (.aload_n 0, 1) := by decide +kernel
theorem dX11_lots_19 : decode cX11_lots 19 = .ok (.getfield 10, 3) := by decide +kernel
theorem dX11_lots_22 : decode cX11_lots 22 = .ok (.iload_n 2, 1) := by decide +kernel
theorem dX11_lots_23 : decode cX11_lots 23 = .ok (.invokevirtual 74, 3) := by decide +kernel
theorem dX11_lots_26 : decode cX11_lots 26 = .ok (.ifCond .eq 22, 3) := by decide +kernel
theorem dX11_lots_29 : decode cX11_lots 29 = .ok (.aload_n 0, 1) := by decide +kernel
theorem dX11_lots_30 : decode cX11_lots 30 = .ok (.getfield 10, 3) := by decide +kernel
theorem dX11_lots_33 : decode cX11_lots 33 = .ok (.iload_n 3, 1) := by decide +kernel
theorem dX11_lots_34 : decode cX11_lots 34 = .ok (.invokevirtual 87, 3) := by decide +kernel
theorem dX11_lots_37 : decode cX11_lots 37 = .ok (.ifCond .eq 11, 3) := by decide +kernel
theorem dX11_lots_40 : decode cX11_lots 40 = .ok (.iload 4, 2) := by decide +kernel
theorem dX11_lots_42 : decode cX11_lots 42 = .ok (.invokestatic 101, 3) := by decide +kernel
theorem dX11_lots_45 : decode cX11_lots 45 = .ok (.ifCond .ne 7, 3) := by decide +kernel
theorem dX11_lots_48 : decode cX11_lots 48 = .ok (.ldc2_w 114, 3) := by decide +kernel
theorem dX11_lots_51 : decode cX11_lots 51 = .ok (.lreturn, 1) := by decide +kernel
theorem dX11_lots_52 : decode cX11_lots 52 = .ok (.aload_n 0, 1) := by decide +kernel
theorem dX11_lots_53 : decode cX11_lots 53 = .ok (.getfield 31, 3) := by decide +kernel
theorem dX11_lots_56 : decode cX11_lots 56 = .ok (.iload_n 1, 1) := by decide +kernel
theorem dX11_lots_57 : decode cX11_lots 57 = .ok (.invokevirtual 167, 3) := by decide +kernel
theorem dX11_lots_60 : decode cX11_lots 60 = .ok (.aload_n 0, 1) := by decide +kernel
theorem dX11_lots_61 : decode cX11_lots 61 = .ok (.getfield 31, 3) := by decide +kernel
theorem dX11_lots_64 : decode cX11_lots 64 = .ok (.iload_n 2, 1) := by decide +kernel
theorem dX11_lots_65 : decode cX11_lots 65 = .ok (.iload_n 3, 1) := by decide +kernel
theorem dX11_lots_66 : decode cX11_lots 66 = .ok (.invokevirtual 170, 3) := by decide +kernel
theorem dX11_lots_69 : decode cX11_lots 69 = .ok (.ifCond .ne 7, 3) := by decide +kernel
theorem dX11_lots_72 : decode cX11_lots 72 = .ok (.ldc2_w 114, 3) := by decide +kernel
theorem dX11_lots_75 : decode cX11_lots 75 = .ok (.lreturn, 1) := by decide +kernel
theorem dX11_lots_76 : decode cX11_lots 76 = .ok (.aload_n 0, 1) := by decide +kernel
theorem dX11_lots_77 : decode cX11_lots 77 = .ok (.getfield 31, 3) := by decide +kernel
theorem dX11_lots_80 : decode cX11_lots 80 = .ok (.getfield 173, 3) := by decide +kernel
theorem dX11_lots_83 : decode cX11_lots 83 = .ok (.aload_n 0, 1) := by decide +kernel
theorem dX11_lots_84 : decode cX11_lots 84 = .ok (.getfield 31, 3) := by decide +kernel
theorem dX11_lots_87 : decode cX11_lots 87 = .ok (.getfield 177, 3) := by decide +kernel
theorem dX11_lots_90 : decode cX11_lots 90 = .ok (.iload 4, 2) := by decide +kernel
theorem dX11_lots_92 : decode cX11_lots 92 = .ok (.invokestatic 127, 3) := by decide +kernel
theorem dX11_lots_95 : decode cX11_lots 95 = .ok (.lreturn, 1) := by decide +kernel
set_option maxRecDepth 20000 in
theorem ggX11_apart_X4_fitNumbers : GoodIn wsX11_apart wsX4_fitNumbers := goodIn_r _ [8, 9, 117, 118, 119, 120, 121, 122, 123, 124, 125] (by decide +kernel) (by decide +kernel)
set_option maxRecDepth 20000 in
theorem gX11_apart_X4_fitNumbers : GoodIn wsX11_apart (wsV RX11 145 RX4 yX4_fitNumbers wsX4_fitNumbers) := goodIn_app (goodIn_of _ (by decide +kernel)) ggX11_apart_X4_fitNumbers
set_option maxRecDepth 20000 in
theorem ggX11_apart_X4_hasFit : GoodIn wsX11_apart wsX4_hasFit := goodIn_r _ [13, 9, 14, 117, 118, 119, 120, 121, 122, 123, 124, 125] (by decide +kernel) (by decide +kernel)
set_option maxRecDepth 20000 in
theorem gX11_apart_X4_hasFit : GoodIn wsX11_apart (wsV RX11 111 RX4 yX4_hasFit wsX4_hasFit) := goodIn_app (goodIn_of _ (by decide +kernel)) ggX11_apart_X4_hasFit
set_option maxRecDepth 20000 in
theorem ggX11_apart_X7_tellsAllApart : GoodIn wsX11_apart wsX7_tellsAllApart := goodIn_r _ [19, 20, 21, 22, 23, 24, 25, 18, 26, 27, 28, 29, 30, 31, 32, 33, 34, 126, 127, 128, 129, 130, 131, 132, 133, 134, 135, 136, 137, 138, 139, 117, 118, 119, 120, 121, 122, 123, 124, 125] (by decide +kernel) (by decide +kernel)
set_option maxRecDepth 20000 in
theorem gX11_apart_X7_tellsAllApart : GoodIn wsX11_apart (wsV RX11 180 RX7 yX7_tellsAllApart wsX7_tellsAllApart) := goodIn_app (goodIn_of _ (by decide +kernel)) ggX11_apart_X7_tellsAllApart
set_option maxRecDepth 20000 in
theorem ggX11_apart_X11_isSureFit : GoodIn wsX11_apart wsX11_isSureFit := goodIn_r _ [39, 2, 3, 10, 11, 12, 7, 13, 9, 14, 40, 41, 42, 18, 43, 21, 44, 45, 46, 47, 23, 24, 25, 26, 20, 22, 27, 48, 49, 50, 51, 52, 53, 54, 55, 56, 57, 58, 59, 60, 61, 62, 63, 64, 65, 66, 67, 68, 69, 70, 71, 72, 73, 74, 75, 76, 77, 78, 79, 80, 81, 82, 83, 84, 85, 86, 87, 88, 89, 90, 91, 92, 93, 94, 95, 96, 97, 98, 99, 100, 101, 102, 103, 104, 109, 110, 111, 112, 113, 114, 115, 116, 117, 118, 119, 120, 121, 122, 123, 124, 125, 126, 127, 128, 129, 130, 131, 132, 133, 134, 135, 136, 137, 138, 139] (by decide +kernel) (by decide +kernel)
set_option maxRecDepth 20000 in
theorem gX11_apart_X11_isSureFit : GoodIn wsX11_apart (wsV RX11 148 RX11 yX11_isSureFit wsX11_isSureFit) := goodIn_app (goodIn_of _ (by decide +kernel)) ggX11_apart_X11_isSureFit
set_option maxRecDepth 20000 in
theorem ggX11_apart_X7_wasted : GoodIn wsX11_apart wsX7_wasted := goodIn_r _ [108, 21, 22, 27, 56, 96, 126, 127, 128, 129, 130, 131, 132, 133, 134, 135, 136, 137, 138, 139, 117, 118, 119, 120, 121, 122, 123, 124, 125] (by decide +kernel) (by decide +kernel)
set_option maxRecDepth 20000 in
theorem gX11_apart_X7_wasted : GoodIn wsX11_apart (wsV RX11 183 RX7 yX7_wasted wsX7_wasted) := goodIn_app (goodIn_of _ (by decide +kernel)) ggX11_apart_X7_wasted
theorem dX11_apart_0 : decode cX11_apart 0 = .ok (.aload_n 0, 1) := by decide +kernel
theorem dX11_apart_1 : decode cX11_apart 1 = .ok (.getfield 70, 3) := by decide +kernel
theorem dX11_apart_4 : decode cX11_apart 4 = .ok (.ifCond .ne 6, 3) := by decide +kernel
theorem dX11_apart_7 : decode cX11_apart 7 = .ok (.bipush (-3), 2) := by decide +kernel
theorem dX11_apart_9 : decode cX11_apart 9 = .ok (.ireturn, 1) := by decide +kernel
theorem dX11_apart_10 : decode cX11_apart 10 = .ok (.aload_n 0, 1) := by decide +kernel
theorem dX11_apart_11 : decode cX11_apart 11 = .ok (.getfield 10, 3) := by decide +kernel
theorem dX11_apart_14 : decode cX11_apart 14 = .ok (.invokevirtual 145, 3) := by decide +kernel
theorem dX11_apart_17 : decode cX11_apart 17 = .ok (.istore_n 1, 1) := by decide +kernel
theorem dX11_apart_18 : decode cX11_apart 18 = .ok (.bipush (-4), 2) := by decide +kernel
theorem dX11_apart_20 : decode cX11_apart 20 = .ok (.istore_n 2, 1) := by decide +kernel
theorem dX11_apart_21 : decode cX11_apart 21 = .ok (.iconst 0, 1) := by decide +kernel
theorem dX11_apart_22 : decode cX11_apart 22 = .ok (.istore_n 3, 1) := by decide +kernel
theorem dX11_apart_23 : decode cX11_apart 23 = .ok (.iconst 0, 1) := by decide +kernel
theorem dX11_apart_24 : decode cX11_apart 24 = .ok (.istore 4, 2) := by decide +kernel
theorem dX11_apart_26 : decode cX11_apart 26 = .ok (.iload 4, 2) := by decide +kernel
theorem dX11_apart_28 : decode cX11_apart 28 = .ok (.iload_n 1, 1) := by decide +kernel
theorem dX11_apart_29 : decode cX11_apart 29 = .ok (.if_icmp .ge 69, 3) := by decide +kernel
theorem dX11_apart_32 : decode cX11_apart 32 = .ok (.aload_n 0, 1) := by decide +kernel
theorem dX11_apart_33 : decode cX11_apart 33 = .ok (.getfield 10, 3) := by decide +kernel
theorem dX11_apart_36 : decode cX11_apart 36 = .ok (.iload 4, 2) := by decide +kernel
theorem dX11_apart_38 : decode cX11_apart 38 = .ok (.invokevirtual 111, 3) := by decide +kernel
theorem dX11_apart_41 : decode cX11_apart 41 = .ok (.ifCond .eq 51, 3) := by decide +kernel
theorem dX11_apart_44 : decode cX11_apart 44 = .ok (.aload_n 0, 1) := by decide +kernel
theorem dX11_apart_45 : decode cX11_apart 45 = .ok (.getfield 31, 3) := by decide +kernel
theorem dX11_apart_48 : decode cX11_apart 48 = .ok (.iload 4, 2) := by decide +kernel
theorem dX11_apart_50 : decode cX11_apart 50 = .ok (.invokevirtual 180, 3) := by decide +kernel
theorem dX11_apart_53 : decode cX11_apart 53 = .ok (.ifCond .eq 39, 3) := by decide +kernel
theorem dX11_apart_56 : decode cX11_apart 56 = .ok (.aload_n 0, 1) := by decide +kernel
theorem dX11_apart_57 : decode cX11_apart 57 = .ok (.iload 4, 2) := by decide +kernel
theorem dX11_apart_59 : decode cX11_apart 59 = .ok (.invokevirtual 148, 3) := by decide +kernel
theorem dX11_apart_62 : decode cX11_apart 62 = .ok (.ifCond .eq 30, 3) := by decide +kernel
theorem dX11_apart_65 : decode cX11_apart 65 = .ok (.aload_n 0, 1) := by decide +kernel
theorem dX11_apart_66 : decode cX11_apart 66 = .ok (.getfield 31, 3) := by decide +kernel
theorem dX11_apart_69 : decode cX11_apart 69 = .ok (.invokevirtual 183, 3) := by decide +kernel
theorem dX11_apart_72 : decode cX11_apart 72 = .ok (.istore 5, 2) := by decide +kernel
theorem dX11_apart_74 : decode cX11_apart 74 = .ok (.iload_n 2, 1) := by decide +kernel
theorem dX11_apart_75 : decode cX11_apart 75 = .ok (.bipush (-4), 2) := by decide +kernel
theorem dX11_apart_77 : decode cX11_apart 77 = .ok (.if_icmp .eq 9, 3) := by decide +kernel
theorem dX11_apart_80 : decode cX11_apart 80 = .ok (.iload 5, 2) := by decide +kernel
theorem dX11_apart_82 : decode cX11_apart 82 = .ok (.iload_n 3, 1) := by decide +kernel
theorem dX11_apart_83 : decode cX11_apart 83 = .ok (.if_icmp .ge 9, 3) := by decide +kernel
theorem dX11_apart_86 : decode cX11_apart 86 = .ok (.iload 4, 2) := by decide +kernel
theorem dX11_apart_88 : decode cX11_apart 88 = .ok (.istore_n 2, 1) := by decide +kernel
theorem dX11_apart_89 : decode cX11_apart 89 = .ok (.iload 5, 2) := by decide +kernel
theorem dX11_apart_91 : decode cX11_apart 91 = .ok (.istore_n 3, 1) := by decide +kernel
theorem dX11_apart_92 : decode cX11_apart 92 = .ok (.iinc 4 1, 3) := by decide +kernel
theorem dX11_apart_95 : decode cX11_apart 95 = .ok (.goto (-69), 3) := by decide +kernel
theorem dX11_apart_98 : decode cX11_apart 98 = .ok (.iload_n 2, 1) := by decide +kernel
theorem dX11_apart_99 : decode cX11_apart 99 = .ok (.ireturn, 1) := by decide +kernel
set_option maxRecDepth 20000 in
theorem ggX11_justNot_X11_sureFitFault : GoodIn wsX11_justNot wsX11_sureFitFault := goodIn_r _ [6, 7, 8, 9, 5, 10, 11, 12, 13, 14, 15, 16, 17, 18, 19, 20, 21, 22, 23, 1, 24, 25, 26, 27, 28, 29, 30, 31, 32, 33, 34, 35, 36, 37, 38, 39, 40, 41, 42, 43, 44, 45, 46, 47, 48, 49, 50, 51, 52, 53, 54, 55, 56, 57, 58, 59, 60, 61, 62, 63, 64, 65, 66, 67, 68, 69, 70, 71, 72, 73, 74, 75, 76, 77, 78, 79, 80, 81, 82, 83, 84, 85, 86, 87, 88, 89, 90, 91, 92, 93, 94, 95, 96, 97, 110, 111, 112, 113, 114, 115, 116, 117, 118, 119, 120, 121, 122, 123, 124, 125, 126, 127, 128, 129, 130, 131, 132, 133, 134, 135, 136, 137, 138, 139, 140] (by decide +kernel) (by decide +kernel)
set_option maxRecDepth 20000 in
theorem gX11_justNot_X11_sureFitFault : GoodIn wsX11_justNot (wsV RX11 157 RX11 yX11_sureFitFault wsX11_sureFitFault) := goodIn_app (goodIn_of _ (by decide +kernel)) ggX11_justNot_X11_sureFitFault
set_option maxRecDepth 20000 in
theorem ggX11_justNot_X7_leastLoss : GoodIn wsX11_justNot wsX7_leastLoss := goodIn_r _ [101, 29, 39, 30, 40, 102, 103, 104, 27, 105, 83, 84, 85, 86, 87, 88, 89, 90, 91, 92, 93, 31, 50, 32, 33, 94, 95, 96, 97, 106, 107, 108, 109, 127, 128, 129, 130, 131, 132, 133, 134, 135, 136, 137, 138, 139, 140, 118, 119, 120, 121, 122, 123, 124, 125, 126] (by decide +kernel) (by decide +kernel)
set_option maxRecDepth 20000 in
theorem gX11_justNot_X7_leastLoss : GoodIn wsX11_justNot (wsV RX11 186 RX7 yX7_leastLoss wsX7_leastLoss) := goodIn_app (goodIn_of _ (by decide +kernel)) ggX11_justNot_X7_leastLoss
theorem dX11_justNot_0 : decode cX11_justNot 0 = .ok (.aload_n 0, 1) := by decide +kernel
theorem dX11_justNot_1 : decode cX11_justNot 1 = .ok (.iload_n 1, 1) := by decide +kernel
theorem dX11_justNot_2 : decode cX11_justNot 2 = .ok (.invokevirtual 157, 3) := by decide +kernel
theorem dX11_justNot_5 : decode cX11_justNot 5 = .ok (.istore_n 2, 1) := by decide +kernel
theorem dX11_justNot_6 : decode cX11_justNot 6 = .ok (.iload_n 2, 1) := by decide +kernel
theorem dX11_justNot_7 : decode cX11_justNot 7 = .ok (.ifCond .eq 7, 3) := by decide +kernel
theorem dX11_justNot_10 : decode cX11_justNot 10 = .ok (.iload_n 2, 1) := by decide +kernel
theorem dX11_justNot_11 : decode cX11_justNot 11 = .ok (.goto 10, 3) := by decide +kernel
theorem dX11_justNot_14 : decode cX11_justNot 14 = .ok (.aload_n 0, 1) := by decide +kernel
theorem dX11_justNot_15 : decode cX11_justNot 15 = .ok (.getfield 31, 3) := by decide +kernel
theorem dX11_justNot_18 : decode cX11_justNot 18 = .ok (.invokevirtual 186, 3) := by decide +kernel
theorem dX11_justNot_21 : decode cX11_justNot 21 = .ok (.ireturn, 1) := by decide +kernel
set_option maxRecDepth 20000 in
theorem ggX11_waste_X11_fitFault : GoodIn wsX11_waste wsX11_fitFault := goodIn_r _ [6, 7, 8, 9, 10, 11, 12, 13, 14, 15, 31, 32, 33, 34, 35, 36, 37, 38, 39, 40, 41, 42, 43, 44, 45, 46, 47] (by decide +kernel) (by decide +kernel)
set_option maxRecDepth 20000 in
theorem gX11_waste_X11_fitFault : GoodIn wsX11_waste (wsV RX11 138 RX11 yX11_fitFault wsX11_fitFault) := goodIn_app (goodIn_of _ (by decide +kernel)) ggX11_waste_X11_fitFault
set_option maxRecDepth 20000 in
theorem ggX11_waste_X7_lay : GoodIn wsX11_waste wsX7_lay := goodIn_r _ [20, 21, 22, 23, 24, 48, 49, 50, 51, 52, 53, 54, 55, 56, 57, 58, 59, 60, 61, 39, 40, 41, 42, 43, 44, 45, 46, 47] (by decide +kernel) (by decide +kernel)
set_option maxRecDepth 20000 in
theorem gX11_waste_X7_lay : GoodIn wsX11_waste (wsV RX11 167 RX7 yX7_lay wsX7_lay) := goodIn_app (goodIn_of _ (by decide +kernel)) ggX11_waste_X7_lay
set_option maxRecDepth 20000 in
theorem ggX11_waste_X7_wasted : GoodIn wsX11_waste wsX7_wasted := goodIn_r _ [28, 22, 23, 24, 29, 30, 48, 49, 50, 51, 52, 53, 54, 55, 56, 57, 58, 59, 60, 61, 39, 40, 41, 42, 43, 44, 45, 46, 47] (by decide +kernel) (by decide +kernel)
set_option maxRecDepth 20000 in
theorem gX11_waste_X7_wasted : GoodIn wsX11_waste (wsV RX11 183 RX7 yX7_wasted wsX7_wasted) := goodIn_app (goodIn_of _ (by decide +kernel)) ggX11_waste_X7_wasted
theorem dX11_waste_0 : decode cX11_waste 0 = .ok (.aload_n 0, 1) := by decide +kernel
theorem dX11_waste_1 : decode cX11_waste 1 = .ok (.iload_n 1, 1) := by decide +kernel
theorem dX11_waste_2 : decode cX11_waste 2 = .ok (.invokevirtual 138, 3) := by decide +kernel
theorem dX11_waste_5 : decode cX11_waste 5 = .ok (.istore_n 2, 1) := by decide +kernel
theorem dX11_waste_6 : decode cX11_waste 6 = .ok (.iload_n 2, 1) := by decide +kernel
theorem dX11_waste_7 : decode cX11_waste 7 = .ok (.ifCond .eq 5, 3) := by decide +kernel
theorem dX11_waste_10 : decode cX11_waste 10 = .ok (.iload_n 2, 1) := by decide +kernel
theorem dX11_waste_11 : decode cX11_waste 11 = .ok (.ireturn, 1) := by decide +kernel
theorem dX11_waste_12 : decode cX11_waste 12 = .ok (.aload_n 0, 1) := by decide +kernel
theorem dX11_waste_13 : decode cX11_waste 13 = .ok (.getfield 31, 3) := by decide +kernel
theorem dX11_waste_16 : decode cX11_waste 16 = .ok (.iload_n 1, 1) := by decide +kernel
theorem dX11_waste_17 : decode cX11_waste 17 = .ok (.invokevirtual 167, 3) := by decide +kernel
theorem dX11_waste_20 : decode cX11_waste 20 = .ok (.aload_n 0, 1) := by decide +kernel
theorem dX11_waste_21 : decode cX11_waste 21 = .ok (.getfield 31, 3) := by decide +kernel
theorem dX11_waste_24 : decode cX11_waste 24 = .ok (.invokevirtual 183, 3) := by decide +kernel
theorem dX11_waste_27 : decode cX11_waste 27 = .ok (.ireturn, 1) := by decide +kernel
set_option maxRecDepth 20000 in
theorem ggX11_gain_X4_hasFit : GoodIn wsX11_gain wsX4_hasFit := goodIn_r _ [9, 10, 11, 120, 121, 122, 123, 124, 125, 126, 127, 128] (by decide +kernel) (by decide +kernel)
set_option maxRecDepth 20000 in
theorem gX11_gain_X4_hasFit : GoodIn wsX11_gain (wsV RX11 111 RX4 yX4_hasFit wsX4_hasFit) := goodIn_app (goodIn_of _ (by decide +kernel)) ggX11_gain_X4_hasFit
set_option maxRecDepth 20000 in
theorem ggX11_gain_X4_hasSort : GoodIn wsX11_gain wsX4_hasSort := goodIn_r _ [15, 10, 120, 121, 122, 123, 124, 125, 126, 127, 128] (by decide +kernel) (by decide +kernel)
set_option maxRecDepth 20000 in
theorem gX11_gain_X4_hasSort : GoodIn wsX11_gain (wsV RX11 74 RX4 yX4_hasSort wsX4_hasSort) := goodIn_app (goodIn_of _ (by decide +kernel)) ggX11_gain_X4_hasSort
set_option maxRecDepth 20000 in
theorem ggX11_gain_X11_isBit : GoodIn wsX11_gain wsX11_isBit := goodIn_r _ [19] (by decide +kernel) (by decide +kernel)
set_option maxRecDepth 20000 in
theorem gX11_gain_X11_isBit : GoodIn wsX11_gain (va_wsS RX11 101 yX11_isBit wsX11_isBit) := goodIn_app (goodIn_of _ (by decide +kernel)) ggX11_gain_X11_isBit
set_option maxRecDepth 20000 in
theorem ggX11_gain_X7_weigh : GoodIn wsX11_gain wsX7_weigh := goodIn_r _ [24, 25, 26, 27, 28, 29, 30, 31, 32, 23, 33, 34, 35, 36, 37, 38, 39, 40, 41, 42, 43, 44, 45, 46, 47, 48, 49, 50, 51, 52, 53, 13, 14, 8, 15, 10, 54, 55, 56, 57, 58, 59, 60, 61, 62, 129, 130, 131, 132, 133, 134, 135, 136, 137, 138, 139, 140, 141, 142, 120, 121, 122, 123, 124, 125, 126, 127, 128] (by decide +kernel) (by decide +kernel)
set_option maxRecDepth 20000 in
theorem gX11_gain_X7_weigh : GoodIn wsX11_gain (wsV RX11 116 RX7 yX7_weigh wsX7_weigh) := goodIn_app (goodIn_of _ (by decide +kernel)) ggX11_gain_X7_weigh
set_option maxRecDepth 20000 in
theorem ggX11_gain_X7_gainTop : GoodIn wsX11_gain wsX7_gainTop := goodIn_r _ [66, 25, 46, 67, 68, 69, 61, 70, 71, 72, 73, 74, 8, 75, 10, 76, 58, 77, 78, 79, 23, 80, 36, 81, 82, 83, 84, 85, 86, 87, 88, 89, 90, 27, 28, 29, 91, 92, 93, 94, 95, 96, 97, 98, 129, 130, 131, 132, 133, 134, 135, 136, 137, 138, 139, 140, 141, 142, 120, 121, 122, 123, 124, 125, 126, 127, 128] (by decide +kernel) (by decide +kernel)
set_option maxRecDepth 20000 in
theorem gX11_gain_X7_gainTop : GoodIn wsX11_gain (wsV RX11 189 RX7 yX7_gainTop wsX7_gainTop) := goodIn_app (goodIn_of _ (by decide +kernel)) ggX11_gain_X7_gainTop
set_option maxRecDepth 20000 in
theorem ggX11_gain_X7_gainUnder : GoodIn wsX11_gain wsX7_gainUnder := goodIn_r _ [102, 71, 91, 92, 93, 23, 94, 36, 95, 96, 97, 98, 89, 29, 129, 130, 131, 132, 133, 134, 135, 136, 137, 138, 139, 140, 141, 142] (by decide +kernel) (by decide +kernel)
set_option maxRecDepth 20000 in
theorem gX11_gain_X7_gainUnder : GoodIn wsX11_gain (wsV RX11 193 RX7 yX7_gainUnder wsX7_gainUnder) := goodIn_app (goodIn_of _ (by decide +kernel)) ggX11_gain_X7_gainUnder
set_option maxRecDepth 20000 in
theorem ggX11_gain_X11_inLeastTerms : GoodIn wsX11_gain wsX11_inLeastTerms := goodIn_r _ [105, 106, 107, 61, 108, 3, 109, 110, 18, 111] (by decide +kernel) (by decide +kernel)
set_option maxRecDepth 20000 in
theorem gX11_gain_X11_inLeastTerms : GoodIn wsX11_gain (va_wsS RX11 127 yX11_inLeastTerms wsX11_inLeastTerms) := goodIn_app (goodIn_of _ (by decide +kernel)) ggX11_gain_X11_inLeastTerms
theorem dX11_gain_0 : decode cX11_gain 0 = .ok (.aload_n 0, 1) := by decide +kernel
theorem dX11_gain_1 : decode cX11_gain 1 = .ok (.getfield 70, 3) := by decide +kernel
theorem dX11_gain_4 : decode cX11_gain 4 = .ok (.ifCond .eq 40, 3) := by decide +kernel
theorem dX11_gain_7 : decode cX11_gain 7 = .ok (.aload_n 0, 1) := by decide +kernel
theorem dX11_gain_8 : decode cX11_gain 8 = .ok (.getfield 10, 3) := by decide +kernel
theorem dX11_gain_11 : decode cX11_gain 11 = .ok (.iload_n 1, 1) := by decide +kernel
theorem dX11_gain_12 : decode cX11_gain 12 = .ok (.invokevirtual 111, 3) := by decide +kernel
theorem dX11_gain_15 : decode cX11_gain 15 = .ok (.ifCond .eq 29, 3) := by decide +kernel
theorem dX11_gain_18 : decode cX11_gain 18 = .ok (.aload_n 0, 1) := by decide +kernel
theorem dX11_gain_19 : decode cX11_gain 19 = .ok (.getfield 10, 3) := by decide +kernel
theorem dX11_gain_22 : decode cX11_gain 22 = .ok (.iload_n 2, 1) := by decide +kernel
theorem dX11_gain_23 : decode cX11_gain 23 = .ok (.invokevirtual 74, 3) := by decide +kernel
theorem dX11_gain_26 : decode cX11_gain 26 = .ok (.ifCond .eq 18, 3) := by decide +kernel
theorem dX11_gain_29 : decode cX11_gain 29 = .ok (.iload_n 3, 1) := by decide +kernel
theorem dX11_gain_30 : decode cX11_gain 30 = .ok (.invokestatic 101, 3) := by decide +kernel
theorem dX11_gain_33 : decode cX11_gain 33 = .ok (.ifCond .eq 11, 3) := by decide +kernel
theorem dX11_gain_36 : decode cX11_gain 36 = .ok (.iload 4, 2) := by decide +kernel
theorem dX11_gain_38 : decode cX11_gain 38 = .ok (.invokestatic 101, 3) := by decide +kernel
theorem dX11_gain_41 : decode cX11_gain 41 = .ok (.ifCond .ne 7, 3) := by decide +kernel
theorem dX11_gain_44 : decode cX11_gain 44 = .ok (.ldc2_w 114, 3) := by decide +kernel
theorem dX11_gain_47 : decode cX11_gain 47 = .ok (.lreturn, 1) := by decide +kernel
theorem dX11_gain_48 : decode cX11_gain 48 = .ok (.aload_n 0, 1) := by decide +kernel
theorem dX11_gain_49 : decode cX11_gain 49 = .ok (.getfield 31, 3) := by decide +kernel
theorem dX11_gain_52 : decode cX11_gain 52 = .ok (.iload_n 1, 1) := by decide +kernel
theorem dX11_gain_53 : decode cX11_gain 53 = .ok (.invokevirtual 116, 3) := by decide +kernel
theorem dX11_gain_56 : decode cX11_gain 56 = .ok (.aload_n 0, 1) := by decide +kernel
theorem dX11_gain_57 : decode cX11_gain 57 = .ok (.getfield 31, 3) := by decide +kernel
theorem dX11_gain_60 : decode cX11_gain 60 = .ok (.iload_n 2, 1) := by decide +kernel
theorem dX11_gain_61 : decode cX11_gain 61 = .ok (.iload_n 3, 1) := by decide +kernel
theorem dX11_gain_62 : decode cX11_gain 62 = .ok (.invokevirtual 189, 3) := by decide +kernel
theorem dX11_gain_65 : decode cX11_gain 65 = .ok (.aload_n 0, 1) := by decide +kernel
theorem dX11_gain_66 : decode cX11_gain 66 = .ok (.getfield 31, 3) := by decide +kernel
theorem dX11_gain_69 : decode cX11_gain 69 = .ok (.iload_n 2, 1) := by decide +kernel
theorem dX11_gain_70 : decode cX11_gain 70 = .ok (.invokevirtual 193, 3) := by decide +kernel
theorem dX11_gain_73 : decode cX11_gain 73 = .ok (.iload 4, 2) := by decide +kernel
theorem dX11_gain_75 : decode cX11_gain 75 = .ok (.invokestatic 127, 3) := by decide +kernel
theorem dX11_gain_78 : decode cX11_gain 78 = .ok (.lreturn, 1) := by decide +kernel
set_option maxRecDepth 20000 in
theorem ggX11_inOne_X4_hasMark : GoodIn wsX11_inOne wsX4_hasMark := goodIn_r _ [7, 8, 29, 30, 31, 32, 33, 34, 35, 36, 37] (by decide +kernel) (by decide +kernel)
set_option maxRecDepth 20000 in
theorem gX11_inOne_X4_hasMark : GoodIn wsX11_inOne (wsV RX11 87 RX4 yX4_hasMark wsX4_hasMark) := goodIn_app (goodIn_of _ (by decide +kernel)) ggX11_inOne_X4_hasMark
set_option maxRecDepth 20000 in
theorem ggX11_inOne_X4_join : GoodIn wsX11_inOne wsX4_join := goodIn_r _ [12, 8, 13, 14, 15, 16, 17, 18, 19, 20, 29, 30, 31, 32, 33, 34, 35, 36, 37] (by decide +kernel) (by decide +kernel)
set_option maxRecDepth 20000 in
theorem gX11_inOne_X4_join : GoodIn wsX11_inOne (wsV RX11 196 RX4 yX4_join wsX4_join) := goodIn_app (goodIn_of _ (by decide +kernel)) ggX11_inOne_X4_join
theorem dX11_inOne_0 : decode cX11_inOne 0 = .ok (.aload_n 0, 1) := by decide +kernel
theorem dX11_inOne_1 : decode cX11_inOne 1 = .ok (.getfield 70, 3) := by decide +kernel
theorem dX11_inOne_4 : decode cX11_inOne 4 = .ok (.ifCond .ne 6, 3) := by decide +kernel
theorem dX11_inOne_7 : decode cX11_inOne 7 = .ok (.bipush (-3), 2) := by decide +kernel
theorem dX11_inOne_9 : decode cX11_inOne 9 = .ok (.ireturn, 1) := by decide +kernel
theorem dX11_inOne_10 : decode cX11_inOne 10 = .ok (.aload_n 0, 1) := by decide +kernel
theorem dX11_inOne_11 : decode cX11_inOne 11 = .ok (.getfield 10, 3) := by decide +kernel
theorem dX11_inOne_14 : decode cX11_inOne 14 = .ok (.iload_n 1, 1) := by decide +kernel
theorem dX11_inOne_15 : decode cX11_inOne 15 = .ok (.invokevirtual 87, 3) := by decide +kernel
theorem dX11_inOne_18 : decode cX11_inOne 18 = .ok (.ifCond .eq 19, 3) := by decide +kernel
theorem dX11_inOne_21 : decode cX11_inOne 21 = .ok (.aload_n 0, 1) := by decide +kernel
theorem dX11_inOne_22 : decode cX11_inOne 22 = .ok (.getfield 10, 3) := by decide +kernel
theorem dX11_inOne_25 : decode cX11_inOne 25 = .ok (.iload_n 2, 1) := by decide +kernel
theorem dX11_inOne_26 : decode cX11_inOne 26 = .ok (.invokevirtual 87, 3) := by decide +kernel
theorem dX11_inOne_29 : decode cX11_inOne 29 = .ok (.ifCond .eq 8, 3) := by decide +kernel
theorem dX11_inOne_32 : decode cX11_inOne 32 = .ok (.iload_n 1, 1) := by decide +kernel
theorem dX11_inOne_33 : decode cX11_inOne 33 = .ok (.iload_n 2, 1) := by decide +kernel
theorem dX11_inOne_34 : decode cX11_inOne 34 = .ok (.if_icmp .ne 5, 3) := by decide +kernel
theorem dX11_inOne_37 : decode cX11_inOne 37 = .ok (.iconst (-1), 1) := by decide +kernel
theorem dX11_inOne_38 : decode cX11_inOne 38 = .ok (.ireturn, 1) := by decide +kernel
theorem dX11_inOne_39 : decode cX11_inOne 39 = .ok (.aload_n 0, 1) := by decide +kernel
theorem dX11_inOne_40 : decode cX11_inOne 40 = .ok (.getfield 10, 3) := by decide +kernel
theorem dX11_inOne_43 : decode cX11_inOne 43 = .ok (.iload_n 1, 1) := by decide +kernel
theorem dX11_inOne_44 : decode cX11_inOne 44 = .ok (.iload_n 2, 1) := by decide +kernel
theorem dX11_inOne_45 : decode cX11_inOne 45 = .ok (.invokevirtual 196, 3) := by decide +kernel
theorem dX11_inOne_48 : decode cX11_inOne 48 = .ok (.ireturn, 1) := by decide +kernel
set_option maxRecDepth 20000 in
theorem ggX11_bars_X4_allMarks : GoodIn wsX11_bars wsX4_allMarks := goodIn_r _ [9, 10, 121, 122, 123, 124, 125, 126, 127, 128, 129] (by decide +kernel) (by decide +kernel)
set_option maxRecDepth 20000 in
theorem gX11_bars_X4_allMarks : GoodIn wsX11_bars (wsV RX11 199 RX4 yX4_allMarks wsX4_allMarks) := goodIn_app (goodIn_of _ (by decide +kernel)) ggX11_bars_X4_allMarks
set_option maxRecDepth 20000 in
theorem ggX11_bars_X4_fitNumbers : GoodIn wsX11_bars wsX4_fitNumbers := goodIn_r _ [14, 15, 121, 122, 123, 124, 125, 126, 127, 128, 129] (by decide +kernel) (by decide +kernel)
set_option maxRecDepth 20000 in
theorem gX11_bars_X4_fitNumbers : GoodIn wsX11_bars (wsV RX11 145 RX4 yX4_fitNumbers wsX4_fitNumbers) := goodIn_app (goodIn_of _ (by decide +kernel)) ggX11_bars_X4_fitNumbers
set_option maxRecDepth 20000 in
theorem ggX11_bars_X11_isSureFit : GoodIn wsX11_bars wsX11_isSureFit := goodIn_r _ [20, 2, 3, 21, 22, 23, 8, 24, 15, 10, 25, 26, 27, 28, 29, 30, 31, 32, 33, 34, 35, 36, 37, 38, 39, 40, 41, 42, 43, 44, 45, 46, 47, 48, 49, 50, 51, 52, 53, 54, 55, 56, 57, 58, 59, 60, 61, 62, 63, 64, 65, 66, 67, 68, 69, 70, 71, 72, 73, 74, 75, 76, 77, 78, 79, 80, 81, 82, 83, 84, 85, 86, 87, 88, 89, 90, 91, 92, 93, 94, 95, 96, 97, 98, 99, 100, 101, 102, 103, 104, 105, 106, 121, 122, 123, 124, 125, 126, 127, 128, 129, 107, 108, 109, 110, 111, 112, 113, 114, 115, 116, 117, 118, 119, 120] (by decide +kernel) (by decide +kernel)
set_option maxRecDepth 20000 in
theorem gX11_bars_X11_isSureFit : GoodIn wsX11_bars (wsV RX11 148 RX11 yX11_isSureFit wsX11_isSureFit) := goodIn_app (goodIn_of _ (by decide +kernel)) ggX11_bars_X11_isSureFit
theorem dX11_bars_0 : decode cX11_bars 0 = .ok (.aload_n 0, 1) := by decide +kernel
theorem dX11_bars_1 : decode cX11_bars 1 = .ok (.getfield 70, 3) := by decide +kernel
theorem dX11_bars_4 : decode cX11_bars 4 = .ok (.ifCond .ne 6, 3) := by decide +kernel
theorem dX11_bars_7 : decode cX11_bars 7 = .ok (.bipush (-3), 2) := by decide +kernel
theorem dX11_bars_9 : decode cX11_bars 9 = .ok (.ireturn, 1) := by decide +kernel
theorem dX11_bars_10 : decode cX11_bars 10 = .ok (.iload_n 1, 1) := by decide +kernel
theorem dX11_bars_11 : decode cX11_bars 11 = .ok (.ifCond .lt 14, 3) := by decide +kernel
theorem dX11_bars_14 : decode cX11_bars 14 = .ok (.iload_n 1, 1) := by decide +kernel
theorem dX11_bars_15 : decode cX11_bars 15 = .ok (.aload_n 0, 1) := by decide +kernel
theorem dX11_bars_16 : decode cX11_bars 16 = .ok (.getfield 10, 3) := by decide +kernel
theorem dX11_bars_19 : decode cX11_bars 19 = .ok (.invokevirtual 199, 3) := by decide +kernel
theorem dX11_bars_22 : decode cX11_bars 22 = .ok (.if_icmp .lt 5, 3) := by decide +kernel
theorem dX11_bars_25 : decode cX11_bars 25 = .ok (.iconst (-1), 1) := by decide +kernel
theorem dX11_bars_26 : decode cX11_bars 26 = .ok (.ireturn, 1) := by decide +kernel
theorem dX11_bars_27 : decode cX11_bars 27 = .ok (.aload_n 0, 1) := by decide +kernel
theorem dX11_bars_28 : decode cX11_bars 28 = .ok (.getfield 31, 3) := by decide +kernel
theorem dX11_bars_31 : decode cX11_bars 31 = .ok (.iload_n 1, 1) := by decide +kernel
theorem dX11_bars_32 : decode cX11_bars 32 = .ok (.putfield 202, 3) := by decide +kernel
theorem dX11_bars_35 : decode cX11_bars 35 = .ok (.aload_n 0, 1) := by decide +kernel
theorem dX11_bars_36 : decode cX11_bars 36 = .ok (.getfield 10, 3) := by decide +kernel
theorem dX11_bars_39 : decode cX11_bars 39 = .ok (.invokevirtual 145, 3) := by decide +kernel
theorem dX11_bars_42 : decode cX11_bars 42 = .ok (.istore_n 2, 1) := by decide +kernel
theorem dX11_bars_43 : decode cX11_bars 43 = .ok (.iconst 0, 1) := by decide +kernel
theorem dX11_bars_44 : decode cX11_bars 44 = .ok (.istore_n 3, 1) := by decide +kernel
theorem dX11_bars_45 : decode cX11_bars 45 = .ok (.iconst 0, 1) := by decide +kernel
theorem dX11_bars_46 : decode cX11_bars 46 = .ok (.istore 4, 2) := by decide +kernel
theorem dX11_bars_48 : decode cX11_bars 48 = .ok (.iload 4, 2) := by decide +kernel
theorem dX11_bars_50 : decode cX11_bars 50 = .ok (.iload_n 2, 1) := by decide +kernel
theorem dX11_bars_51 : decode cX11_bars 51 = .ok (.if_icmp .ge 21, 3) := by decide +kernel
theorem dX11_bars_54 : decode cX11_bars 54 = .ok (.aload_n 0, 1) := by decide +kernel
theorem dX11_bars_55 : decode cX11_bars 55 = .ok (.iload 4, 2) := by decide +kernel
theorem dX11_bars_57 : decode cX11_bars 57 = .ok (.invokevirtual 148, 3) := by decide +kernel
theorem dX11_bars_60 : decode cX11_bars 60 = .ok (.ifCond .eq 6, 3) := by decide +kernel
theorem dX11_bars_63 : decode cX11_bars 63 = .ok (.iinc 3 1, 3) := by decide +kernel
theorem dX11_bars_66 : decode cX11_bars 66 = .ok (.iinc 4 1, 3) := by decide +kernel
theorem dX11_bars_69 : decode cX11_bars 69 = .ok (.goto (-21), 3) := by decide +kernel
theorem dX11_bars_72 : decode cX11_bars 72 = .ok (.aload_n 0, 1) := by decide +kernel
theorem dX11_bars_73 : decode cX11_bars 73 = .ok (.getfield 31, 3) := by decide +kernel
theorem dX11_bars_76 : decode cX11_bars 76 = .ok (.iconst 0, 1) := by decide +kernel
theorem dX11_bars_77 : decode cX11_bars 77 = .ok (.putfield 202, 3) := by decide +kernel
theorem dX11_bars_80 : decode cX11_bars 80 = .ok (.iload_n 3, 1) := by decide +kernel
theorem dX11_bars_81 : decode cX11_bars 81 = .ok (.ireturn, 1) := by decide +kernel
set_option maxRecDepth 20000 in
theorem ggX11_leastBar_X11_isBit : GoodIn wsX11_leastBar wsX11_isBit := goodIn_r _ [8] (by decide +kernel) (by decide +kernel)
set_option maxRecDepth 20000 in
theorem gX11_leastBar_X11_isBit : GoodIn wsX11_leastBar (va_wsS RX11 101 yX11_isBit wsX11_isBit) := goodIn_app (goodIn_of _ (by decide +kernel)) ggX11_leastBar_X11_isBit
set_option maxRecDepth 20000 in
theorem ggX11_leastBar_X4_allMarks : GoodIn wsX11_leastBar wsX4_allMarks := goodIn_r _ [13, 14, 139, 140, 141, 142, 143, 144, 145, 146, 147] (by decide +kernel) (by decide +kernel)
set_option maxRecDepth 20000 in
theorem gX11_leastBar_X4_allMarks : GoodIn wsX11_leastBar (wsV RX11 199 RX4 yX4_allMarks wsX4_allMarks) := goodIn_app (goodIn_of _ (by decide +kernel)) ggX11_leastBar_X4_allMarks
set_option maxRecDepth 20000 in
theorem ggX11_leastBar_X11_leastWaste : GoodIn wsX11_leastBar wsX11_leastWaste := goodIn_r _ [18, 2, 3, 19, 20, 21, 12, 22, 23, 24, 25, 26, 7, 27, 28, 29, 30, 31, 14, 32, 33, 34, 35, 36, 37, 38, 39, 40, 41, 42, 43, 44, 45, 46, 47, 48, 49, 50, 51, 52, 53, 54, 55, 56, 57, 58, 59, 60, 61, 62, 63, 64, 65, 66, 67, 68, 69, 70, 71, 72, 73, 74, 75, 76, 77, 78, 79, 80, 81, 82, 83, 84, 85, 86, 87, 88, 89, 90, 91, 92, 93, 94, 95, 96, 97, 98, 99, 100, 101, 102, 103, 104, 105, 106, 107, 108, 109, 117, 118, 119, 120, 121, 122, 123, 124, 139, 140, 141, 142, 143, 144, 145, 146, 147, 125, 126, 127, 128, 129, 130, 131, 132, 133, 134, 135, 136, 137, 138] (by decide +kernel) (by decide +kernel)
set_option maxRecDepth 20000 in
theorem gX11_leastBar_X11_leastWaste : GoodIn wsX11_leastBar (wsV RX11 206 RX11 yX11_leastWaste wsX11_leastWaste) := goodIn_app (goodIn_of _ (by decide +kernel)) ggX11_leastBar_X11_leastWaste
set_option maxRecDepth 20000 in
theorem ggX11_leastBar_J6_bitCount_0f7a4 : GoodIn wsX11_leastBar wsJ6_bitCount_0f7a4 := goodIn_r _ [113, 114, 115, 116] (by decide +kernel) (by decide +kernel)
set_option maxRecDepth 20000 in
theorem gX11_leastBar_J6_bitCount_0f7a4 : GoodIn wsX11_leastBar (va_wsS RX11 209 yJ6_bitCount_0f7a4 wsJ6_bitCount_0f7a4) := goodIn_app (goodIn_of _ (by decide +kernel)) ggX11_leastBar_J6_bitCount_0f7a4
theorem dX11_leastBar_0 : decode cX11_leastBar 0 = .ok (.aload_n 0, 1) := by decide +kernel
theorem dX11_leastBar_1 : decode cX11_leastBar 1 = .ok (.getfield 70, 3) := by decide +kernel
theorem dX11_leastBar_4 : decode cX11_leastBar 4 = .ok (.ifCond .ne 6, 3) := by decide +kernel
theorem dX11_leastBar_7 : decode cX11_leastBar 7 = .ok (.bipush (-3), 2) := by decide +kernel
theorem dX11_leastBar_9 : decode cX11_leastBar 9 = .ok (.ireturn, 1) := by decide +kernel
theorem dX11_leastBar_10 : decode cX11_leastBar 10 = .ok (.iload_n 1, 1) := by decide +kernel
theorem dX11_leastBar_11 : decode cX11_leastBar 11 = .ok (.invokestatic 101, 3) := by decide +kernel
theorem dX11_leastBar_14 : decode cX11_leastBar 14 = .ok (.ifCond .ne 5, 3) := by decide +kernel
theorem dX11_leastBar_17 : decode cX11_leastBar 17 = .ok (.iconst (-1), 1) := by decide +kernel
theorem dX11_leastBar_18 : decode cX11_leastBar 18 = .ok (.ireturn, 1) := by decide +kernel
theorem dX11_leastBar_19 : decode cX11_leastBar 19 = .ok (.bipush (-4), 2) := by decide +kernel
theorem dX11_leastBar_21 : decode cX11_leastBar 21 = .ok (.istore_n 2, 1) := by decide +kernel
theorem dX11_leastBar_22 : decode cX11_leastBar 22 = .ok (.bipush (-4), 2) := by decide +kernel
theorem dX11_leastBar_24 : decode cX11_leastBar 24 = .ok (.istore_n 3, 1) := by decide +kernel
theorem dX11_leastBar_25 : decode cX11_leastBar 25 = .ok (.iconst 0, 1) := by decide +kernel
theorem dX11_leastBar_26 : decode cX11_leastBar 26 = .ok (.istore 4, 2) := by decide +kernel
theorem dX11_leastBar_28 : decode cX11_leastBar 28 = .ok (.iload 4, 2) := by decide +kernel
theorem dX11_leastBar_30 : decode cX11_leastBar 30 = .ok (.aload_n 0, 1) := by decide +kernel
theorem dX11_leastBar_31 : decode cX11_leastBar 31 = .ok (.getfield 10, 3) := by decide +kernel
theorem dX11_leastBar_34 : decode cX11_leastBar 34 = .ok (.invokevirtual 199, 3) := by decide +kernel
theorem dX11_leastBar_37 : decode cX11_leastBar 37 = .ok (.if_icmp .ge 79, 3) := by decide +kernel
theorem dX11_leastBar_40 : decode cX11_leastBar 40 = .ok (.aload_n 0, 1) := by decide +kernel
theorem dX11_leastBar_41 : decode cX11_leastBar 41 = .ok (.getfield 31, 3) := by decide +kernel
theorem dX11_leastBar_44 : decode cX11_leastBar 44 = .ok (.iload 4, 2) := by decide +kernel
theorem dX11_leastBar_46 : decode cX11_leastBar 46 = .ok (.putfield 202, 3) := by decide +kernel
theorem dX11_leastBar_49 : decode cX11_leastBar 49 = .ok (.aload_n 0, 1) := by decide +kernel
theorem dX11_leastBar_50 : decode cX11_leastBar 50 = .ok (.invokevirtual 206, 3) := by decide +kernel
theorem dX11_leastBar_53 : decode cX11_leastBar 53 = .ok (.istore 5, 2) := by decide +kernel
theorem dX11_leastBar_55 : decode cX11_leastBar 55 = .ok (.iload 5, 2) := by decide +kernel
theorem dX11_leastBar_57 : decode cX11_leastBar 57 = .ok (.iload_n 3, 1) := by decide +kernel
theorem dX11_leastBar_58 : decode cX11_leastBar 58 = .ok (.if_icmp .ne 19, 3) := by decide +kernel
theorem dX11_leastBar_61 : decode cX11_leastBar 61 = .ok (.iload 4, 2) := by decide +kernel
theorem dX11_leastBar_63 : decode cX11_leastBar 63 = .ok (.invokestatic 209, 3) := by decide +kernel
theorem dX11_leastBar_66 : decode cX11_leastBar 66 = .ok (.iload_n 2, 1) := by decide +kernel
theorem dX11_leastBar_67 : decode cX11_leastBar 67 = .ok (.invokestatic 209, 3) := by decide +kernel
theorem dX11_leastBar_70 : decode cX11_leastBar 70 = .ok (.if_icmp .ge 7, 3) := by decide +kernel
theorem dX11_leastBar_73 : decode cX11_leastBar 73 = .ok (.iconst 1, 1) := by decide +kernel
theorem dX11_leastBar_74 : decode cX11_leastBar 74 = .ok (.goto 4, 3) := by decide +kernel
theorem dX11_leastBar_77 : decode cX11_leastBar 77 = .ok (.iconst 0, 1) := by decide +kernel
theorem dX11_leastBar_78 : decode cX11_leastBar 78 = .ok (.istore 6, 2) := by decide +kernel
theorem dX11_leastBar_80 : decode cX11_leastBar 80 = .ok (.iload 5, 2) := by decide +kernel
theorem dX11_leastBar_82 : decode cX11_leastBar 82 = .ok (.bipush (-4), 2) := by decide +kernel
theorem dX11_leastBar_84 : decode cX11_leastBar 84 = .ok (.if_icmp .eq 26, 3) := by decide +kernel
theorem dX11_leastBar_87 : decode cX11_leastBar 87 = .ok (.iload_n 3, 1) := by decide +kernel
theorem dX11_leastBar_88 : decode cX11_leastBar 88 = .ok (.bipush (-4), 2) := by decide +kernel
theorem dX11_leastBar_90 : decode cX11_leastBar 90 = .ok (.if_icmp .eq 14, 3) := by decide +kernel
theorem dX11_leastBar_93 : decode cX11_leastBar 93 = .ok (.iload 5, 2) := by decide +kernel
theorem dX11_leastBar_95 : decode cX11_leastBar 95 = .ok (.iload_n 3, 1) := by decide +kernel
theorem dX11_leastBar_96 : decode cX11_leastBar 96 = .ok (.if_icmp .lt 8, 3) := by decide +kernel
theorem dX11_leastBar_99 : decode cX11_leastBar 99 = .ok (.iload 6, 2) := by decide +kernel
theorem dX11_leastBar_101 : decode cX11_leastBar 101 = .ok (.ifCond .eq 9, 3) := by decide +kernel
theorem dX11_leastBar_104 : decode cX11_leastBar 104 = .ok (.iload 4, 2) := by decide +kernel
theorem dX11_leastBar_106 : decode cX11_leastBar 106 = .ok (.istore_n 2, 1) := by decide +kernel
theorem dX11_leastBar_107 : decode cX11_leastBar 107 = .ok (.iload 5, 2) := by decide +kernel
theorem dX11_leastBar_109 : decode cX11_leastBar 109 = .ok (.istore_n 3, 1) := by decide +kernel
theorem dX11_leastBar_110 : decode cX11_leastBar 110 = .ok (.iinc 4 1, 3) := by decide +kernel
theorem dX11_leastBar_113 : decode cX11_leastBar 113 = .ok (.goto (-85), 3) := by decide +kernel
theorem dX11_leastBar_116 : decode cX11_leastBar 116 = .ok (.aload_n 0, 1) := by decide +kernel
theorem dX11_leastBar_117 : decode cX11_leastBar 117 = .ok (.getfield 31, 3) := by decide +kernel
theorem dX11_leastBar_120 : decode cX11_leastBar 120 = .ok (.iconst 0, 1) := by decide +kernel
theorem dX11_leastBar_121 : decode cX11_leastBar 121 = .ok (.putfield 202, 3) := by decide +kernel
theorem dX11_leastBar_124 : decode cX11_leastBar 124 = .ok (.iload_n 1, 1) := by decide +kernel
theorem dX11_leastBar_125 : decode cX11_leastBar 125 = .ok (.ifCond .ne 7, 3) := by decide +kernel
theorem dX11_leastBar_128 : decode cX11_leastBar 128 = .ok (.iload_n 2, 1) := by decide +kernel
theorem dX11_leastBar_129 : decode cX11_leastBar 129 = .ok (.goto 4, 3) := by decide +kernel
theorem dX11_leastBar_132 : decode cX11_leastBar 132 = .ok (.iload_n 3, 1) := by decide +kernel
theorem dX11_leastBar_133 : decode cX11_leastBar 133 = .ok (.ireturn, 1) := by decide +kernel
set_option maxRecDepth 20000 in
theorem ggX11_makes_X4_hasSort : GoodIn wsX11_makes wsX4_hasSort := goodIn_r _ [9, 10, 66, 67, 68, 69, 70, 71, 72, 73, 74] (by decide +kernel) (by decide +kernel)
set_option maxRecDepth 20000 in
theorem gX11_makes_X4_hasSort : GoodIn wsX11_makes (wsV RX11 74 RX4 yX4_hasSort wsX4_hasSort) := goodIn_app (goodIn_of _ (by decide +kernel)) ggX11_makes_X4_hasSort
set_option maxRecDepth 20000 in
theorem ggX11_makes_X11_lineFault : GoodIn wsX11_makes wsX11_lineFault := goodIn_r _ [15, 1, 16, 3, 17, 18, 14, 19, 20, 21, 22, 23, 24, 25, 26, 27, 28, 29, 30, 31, 32, 33, 34, 35, 36, 37, 38, 39, 40, 41, 42, 43, 44, 45, 46, 47, 48, 49, 50, 51, 52, 53, 54, 55, 56, 57, 58, 59, 60, 61, 75, 76, 77, 78, 62, 63, 64, 65, 66, 67, 68, 69, 70, 71, 72, 73, 74] (by decide +kernel) (by decide +kernel)
set_option maxRecDepth 20000 in
theorem gX11_makes_X11_lineFault : GoodIn wsX11_makes (wsV RX11 214 RX11 yX11_lineFault wsX11_lineFault) := goodIn_app (goodIn_of _ (by decide +kernel)) ggX11_makes_X11_lineFault
theorem dX11_makes_0 : decode cX11_makes 0 = .ok (.aload_n 0, 1) := by decide +kernel
theorem dX11_makes_1 : decode cX11_makes 1 = .ok (.getfield 70, 3) := by decide +kernel
theorem dX11_makes_4 : decode cX11_makes 4 = .ok (.ifCond .ne 6, 3) := by decide +kernel
theorem dX11_makes_7 : decode cX11_makes 7 = .ok (.bipush (-3), 2) := by decide +kernel
theorem dX11_makes_9 : decode cX11_makes 9 = .ok (.ireturn, 1) := by decide +kernel
theorem dX11_makes_10 : decode cX11_makes 10 = .ok (.aload_n 0, 1) := by decide +kernel
theorem dX11_makes_11 : decode cX11_makes 11 = .ok (.getfield 10, 3) := by decide +kernel
theorem dX11_makes_14 : decode cX11_makes 14 = .ok (.iload_n 2, 1) := by decide +kernel
theorem dX11_makes_15 : decode cX11_makes 15 = .ok (.invokevirtual 74, 3) := by decide +kernel
theorem dX11_makes_18 : decode cX11_makes 18 = .ok (.ifCond .ne 5, 3) := by decide +kernel
theorem dX11_makes_21 : decode cX11_makes 21 = .ok (.iconst (-1), 1) := by decide +kernel
theorem dX11_makes_22 : decode cX11_makes 22 = .ok (.ireturn, 1) := by decide +kernel
theorem dX11_makes_23 : decode cX11_makes 23 = .ok (.aload_n 0, 1) := by decide +kernel
theorem dX11_makes_24 : decode cX11_makes 24 = .ok (.iload_n 1, 1) := by decide +kernel
theorem dX11_makes_25 : decode cX11_makes 25 = .ok (.invokevirtual 214, 3) := by decide +kernel
theorem dX11_makes_28 : decode cX11_makes 28 = .ok (.istore_n 3, 1) := by decide +kernel
theorem dX11_makes_29 : decode cX11_makes 29 = .ok (.iload_n 3, 1) := by decide +kernel
theorem dX11_makes_30 : decode cX11_makes 30 = .ok (.ifCond .eq 7, 3) := by decide +kernel
theorem dX11_makes_33 : decode cX11_makes 33 = .ok (.iload_n 3, 1) := by decide +kernel
theorem dX11_makes_34 : decode cX11_makes 34 = .ok (.goto 12, 3) := by decide +kernel
theorem dX11_makes_37 : decode cX11_makes 37 = .ok (.aload_n 0, 1) := by decide +kernel
theorem dX11_makes_38 : decode cX11_makes 38 = .ok (.getfield 38, 3) := by decide +kernel
theorem dX11_makes_41 : decode cX11_makes 41 = .ok (.getfield 217, 3) := by decide +kernel
theorem dX11_makes_44 : decode cX11_makes 44 = .ok (.iload_n 2, 1) := by decide +kernel
theorem dX11_makes_45 : decode cX11_makes 45 = .ok (.iaload, 1) := by decide +kernel
theorem dX11_makes_46 : decode cX11_makes 46 = .ok (.ireturn, 1) := by decide +kernel
set_option maxRecDepth 20000 in
theorem ggX11_loses_X11_lineFault : GoodIn wsX11_loses wsX11_lineFault := goodIn_r _ [6, 7, 8, 1, 9, 10, 5, 11, 12, 13, 14, 15, 16, 17, 18, 19, 20, 21, 22, 23, 24, 25, 26, 27, 28, 29, 30, 31, 32, 33, 34, 35, 36, 37, 38, 39, 40, 41, 42, 43, 44, 45, 57, 58, 59, 60, 61, 62, 63, 64, 65, 66, 67, 68, 69, 70, 71, 72, 73, 74, 75, 76, 77, 78, 79, 80, 81] (by decide +kernel) (by decide +kernel)
set_option maxRecDepth 20000 in
theorem gX11_loses_X11_lineFault : GoodIn wsX11_loses (wsV RX11 214 RX11 yX11_lineFault wsX11_lineFault) := goodIn_app (goodIn_of _ (by decide +kernel)) ggX11_loses_X11_lineFault
set_option maxRecDepth 20000 in
theorem ggX11_loses_X3_firstLoss : GoodIn wsX11_loses wsX3_firstLoss := goodIn_r _ [49, 33, 34, 37, 42, 36, 50, 51, 52, 30, 53, 54, 55, 56, 69, 70, 71, 72, 73, 74, 75, 76, 77, 78, 79, 80, 81] (by decide +kernel) (by decide +kernel)
set_option maxRecDepth 20000 in
theorem gX11_loses_X3_firstLoss : GoodIn wsX11_loses (wsV RX11 220 RX3 yX3_firstLoss wsX3_firstLoss) := goodIn_app (goodIn_of _ (by decide +kernel)) ggX11_loses_X3_firstLoss
theorem dX11_loses_0 : decode cX11_loses 0 = .ok (.aload_n 0, 1) := by decide +kernel
theorem dX11_loses_1 : decode cX11_loses 1 = .ok (.iload_n 1, 1) := by decide +kernel
theorem dX11_loses_2 : decode cX11_loses 2 = .ok (.invokevirtual 214, 3) := by decide +kernel
theorem dX11_loses_5 : decode cX11_loses 5 = .ok (.istore_n 2, 1) := by decide +kernel
theorem dX11_loses_6 : decode cX11_loses 6 = .ok (.iload_n 2, 1) := by decide +kernel
theorem dX11_loses_7 : decode cX11_loses 7 = .ok (.ifCond .eq 7, 3) := by decide +kernel
theorem dX11_loses_10 : decode cX11_loses 10 = .ok (.iload_n 2, 1) := by decide +kernel
theorem dX11_loses_11 : decode cX11_loses 11 = .ok (.goto 10, 3) := by decide +kernel
theorem dX11_loses_14 : decode cX11_loses 14 = .ok (.aload_n 0, 1) := by decide +kernel
theorem dX11_loses_15 : decode cX11_loses 15 = .ok (.getfield 38, 3) := by decide +kernel
theorem dX11_loses_18 : decode cX11_loses 18 = .ok (.invokevirtual 220, 3) := by decide +kernel
theorem dX11_loses_21 : decode cX11_loses 21 = .ok (.ireturn, 1) := by decide +kernel
set_option maxRecDepth 20000 in
theorem ggX11_broken_X11_lineFault : GoodIn wsX11_broken wsX11_lineFault := goodIn_r _ [6, 7, 8, 1, 9, 10, 5, 11, 12, 13, 14, 15, 16, 17, 18, 19, 20, 21, 22, 23, 24, 25, 26, 27, 28, 29, 30, 31, 32, 33, 34, 35, 36, 37, 38, 39, 40, 41, 42, 43, 44, 45, 72, 73, 74, 75, 76, 77, 78, 79, 80, 81, 82, 83, 84, 85, 86, 87, 88, 89, 90, 91, 92, 93, 94, 95, 96] (by decide +kernel) (by decide +kernel)
set_option maxRecDepth 20000 in
theorem gX11_broken_X11_lineFault : GoodIn wsX11_broken (wsV RX11 214 RX11 yX11_lineFault wsX11_lineFault) := goodIn_app (goodIn_of _ (by decide +kernel)) ggX11_broken_X11_lineFault
set_option maxRecDepth 20000 in
theorem ggX11_broken_X3_firstOffer : GoodIn wsX11_broken wsX3_firstOffer := goodIn_r _ [49, 33, 34, 50, 51, 52, 53, 54, 55, 56, 57, 58, 59, 60, 61, 62, 63, 64, 30, 65, 37, 44, 43, 66, 67, 68, 69, 70, 71, 84, 85, 86, 87, 88, 89, 90, 91, 92, 93, 94, 95, 96] (by decide +kernel) (by decide +kernel)
set_option maxRecDepth 20000 in
theorem gX11_broken_X3_firstOffer : GoodIn wsX11_broken (wsV RX11 223 RX3 yX3_firstOffer wsX3_firstOffer) := goodIn_app (goodIn_of _ (by decide +kernel)) ggX11_broken_X3_firstOffer
theorem dX11_broken_0 : decode cX11_broken 0 = .ok (.aload_n 0, 1) := by decide +kernel
theorem dX11_broken_1 : decode cX11_broken 1 = .ok (.iload_n 1, 1) := by decide +kernel
theorem dX11_broken_2 : decode cX11_broken 2 = .ok (.invokevirtual 214, 3) := by decide +kernel
theorem dX11_broken_5 : decode cX11_broken 5 = .ok (.istore_n 2, 1) := by decide +kernel
theorem dX11_broken_6 : decode cX11_broken 6 = .ok (.iload_n 2, 1) := by decide +kernel
theorem dX11_broken_7 : decode cX11_broken 7 = .ok (.ifCond .eq 7, 3) := by decide +kernel
theorem dX11_broken_10 : decode cX11_broken 10 = .ok (.iload_n 2, 1) := by decide +kernel
theorem dX11_broken_11 : decode cX11_broken 11 = .ok (.goto 10, 3) := by decide +kernel
theorem dX11_broken_14 : decode cX11_broken 14 = .ok (.aload_n 0, 1) := by decide +kernel
theorem dX11_broken_15 : decode cX11_broken 15 = .ok (.getfield 38, 3) := by decide +kernel
theorem dX11_broken_18 : decode cX11_broken 18 = .ok (.invokevirtual 223, 3) := by decide +kernel
theorem dX11_broken_21 : decode cX11_broken 21 = .ok (.ireturn, 1) := by decide +kernel
set_option maxRecDepth 20000 in
theorem ggX11_edge_X4_hasFit : GoodIn wsX11_edge wsX4_hasFit := goodIn_r _ [9, 10, 11, 96, 97, 98, 99, 100, 101, 102, 103, 104] (by decide +kernel) (by decide +kernel)
set_option maxRecDepth 20000 in
theorem gX11_edge_X4_hasFit : GoodIn wsX11_edge (wsV RX11 111 RX4 yX4_hasFit wsX4_hasFit) := goodIn_app (goodIn_of _ (by decide +kernel)) ggX11_edge_X4_hasFit
set_option maxRecDepth 20000 in
theorem ggX11_edge_X4_hasMark : GoodIn wsX11_edge wsX4_hasMark := goodIn_r _ [15, 11, 96, 97, 98, 99, 100, 101, 102, 103, 104] (by decide +kernel) (by decide +kernel)
set_option maxRecDepth 20000 in
theorem gX11_edge_X4_hasMark : GoodIn wsX11_edge (wsV RX11 87 RX4 yX4_hasMark wsX4_hasMark) := goodIn_app (goodIn_of _ (by decide +kernel)) ggX11_edge_X4_hasMark
set_option maxRecDepth 20000 in
theorem ggX11_edge_X4_hasSort : GoodIn wsX11_edge wsX4_hasSort := goodIn_r _ [19, 10, 96, 97, 98, 99, 100, 101, 102, 103, 104] (by decide +kernel) (by decide +kernel)
set_option maxRecDepth 20000 in
theorem gX11_edge_X4_hasSort : GoodIn wsX11_edge (wsV RX11 74 RX4 yX4_hasSort wsX4_hasSort) := goodIn_app (goodIn_of _ (by decide +kernel)) ggX11_edge_X4_hasSort
set_option maxRecDepth 20000 in
theorem ggX11_edge_X7_weigh : GoodIn wsX11_edge wsX7_weigh := goodIn_r _ [24, 25, 26, 27, 28, 29, 30, 31, 32, 23, 33, 34, 35, 36, 37, 38, 39, 40, 41, 42, 43, 44, 45, 46, 47, 48, 49, 50, 51, 52, 53, 17, 18, 8, 19, 10, 54, 55, 56, 57, 58, 59, 60, 61, 62, 105, 106, 107, 108, 109, 110, 111, 112, 113, 114, 115, 116, 117, 118, 96, 97, 98, 99, 100, 101, 102, 103, 104] (by decide +kernel) (by decide +kernel)
set_option maxRecDepth 20000 in
theorem gX11_edge_X7_weigh : GoodIn wsX11_edge (wsV RX11 116 RX7 yX7_weigh wsX7_weigh) := goodIn_app (goodIn_of _ (by decide +kernel)) ggX11_edge_X7_weigh
set_option maxRecDepth 20000 in
theorem ggX11_edge_X7_isContentBut : GoodIn wsX11_edge wsX7_isContentBut := goodIn_r _ [66, 25, 35, 67, 68, 69, 23, 70, 36, 26, 71, 72, 73, 74, 75, 76, 77, 78, 79, 80, 81, 82, 27, 46, 28, 29, 83, 84, 85, 86, 105, 106, 107, 108, 109, 110, 111, 112, 113, 114, 115, 116, 117, 118, 96, 97, 98, 99, 100, 101, 102, 103, 104] (by decide +kernel) (by decide +kernel)
set_option maxRecDepth 20000 in
theorem gX11_edge_X7_isContentBut : GoodIn wsX11_edge (wsV RX11 226 RX7 yX7_isContentBut wsX7_isContentBut) := goodIn_app (goodIn_of _ (by decide +kernel)) ggX11_edge_X7_isContentBut
set_option maxRecDepth 20000 in
theorem ggX11_edge_X7_firstLure : GoodIn wsX11_edge wsX7_firstLure := goodIn_r _ [70, 36, 25, 26, 71, 72, 73, 74, 23, 75, 76, 77, 78, 79, 80, 81, 82, 27, 46, 28, 29, 83, 84, 85, 86, 105, 106, 107, 108, 109, 110, 111, 112, 113, 114, 115, 116, 117, 118, 96, 97, 98, 99, 100, 101, 102, 103, 104] (by decide +kernel) (by decide +kernel)
set_option maxRecDepth 20000 in
theorem gX11_edge_X7_firstLure : GoodIn wsX11_edge (wsV RX11 229 RX7 yX7_firstLure wsX7_firstLure) := goodIn_app (goodIn_of _ (by decide +kernel)) ggX11_edge_X7_firstLure
theorem dX11_edge_0 : decode cX11_edge 0 = .ok (.aload_n 0, 1) := by decide +kernel
theorem dX11_edge_1 : decode cX11_edge 1 = .ok (.getfield 70, 3) := by decide +kernel
theorem dX11_edge_4 : decode cX11_edge 4 = .ok (.ifCond .ne 6, 3) := by decide +kernel
theorem dX11_edge_7 : decode cX11_edge 7 = .ok (.bipush (-3), 2) := by decide +kernel
theorem dX11_edge_9 : decode cX11_edge 9 = .ok (.ireturn, 1) := by decide +kernel
theorem dX11_edge_10 : decode cX11_edge 10 = .ok (.aload_n 0, 1) := by decide +kernel
theorem dX11_edge_11 : decode cX11_edge 11 = .ok (.getfield 10, 3) := by decide +kernel
theorem dX11_edge_14 : decode cX11_edge 14 = .ok (.iload_n 1, 1) := by decide +kernel
theorem dX11_edge_15 : decode cX11_edge 15 = .ok (.invokevirtual 111, 3) := by decide +kernel
theorem dX11_edge_18 : decode cX11_edge 18 = .ok (.ifCond .eq 25, 3) := by decide +kernel
theorem dX11_edge_21 : decode cX11_edge 21 = .ok (.aload_n 0, 1) := by decide +kernel
theorem dX11_edge_22 : decode cX11_edge 22 = .ok (.getfield 10, 3) := by decide +kernel
theorem dX11_edge_25 : decode cX11_edge 25 = .ok (.iload_n 2, 1) := by decide +kernel
theorem dX11_edge_26 : decode cX11_edge 26 = .ok (.invokevirtual 87, 3) := by decide +kernel
theorem dX11_edge_29 : decode cX11_edge 29 = .ok (.ifCond .eq 14, 3) := by decide +kernel
theorem dX11_edge_32 : decode cX11_edge 32 = .ok (.aload_n 0, 1) := by decide +kernel
theorem dX11_edge_33 : decode cX11_edge 33 = .ok (.getfield 10, 3) := by decide +kernel
theorem dX11_edge_36 : decode cX11_edge 36 = .ok (.iload_n 3, 1) := by decide +kernel
theorem dX11_edge_37 : decode cX11_edge 37 = .ok (.invokevirtual 74, 3) := by decide +kernel
theorem dX11_edge_40 : decode cX11_edge 40 = .ok (.ifCond .ne 5, 3) := by decide +kernel
theorem dX11_edge_43 : decode cX11_edge 43 = .ok (.iconst (-1), 1) := by decide +kernel
theorem dX11_edge_44 : decode cX11_edge 44 = .ok (.ireturn, 1) := by decide +kernel
theorem dX11_edge_45 : decode cX11_edge 45 = .ok (.aload_n 0, 1) := by decide +kernel
theorem dX11_edge_46 : decode cX11_edge 46 = .ok (.getfield 31, 3) := by decide +kernel
theorem dX11_edge_49 : decode cX11_edge 49 = .ok (.iload_n 1, 1) := by decide +kernel
theorem dX11_edge_50 : decode cX11_edge 50 = .ok (.invokevirtual 116, 3) := by decide +kernel
theorem dX11_edge_53 : decode cX11_edge 53 = .ok (.aload_n 0, 1) := by decide +kernel
theorem dX11_edge_54 : decode cX11_edge 54 = .ok (.getfield 31, 3) := by decide +kernel
theorem dX11_edge_57 : decode cX11_edge 57 = .ok (.iload_n 3, 1) := by decide +kernel
theorem dX11_edge_58 : decode cX11_edge 58 = .ok (.invokevirtual 226, 3) := by decide +kernel
theorem dX11_edge_61 : decode cX11_edge 61 = .ok (.ifCond .ne 6, 3) := by decide +kernel
theorem dX11_edge_64 : decode cX11_edge 64 = .ok (.bipush (-4), 2) := by decide +kernel
theorem dX11_edge_66 : decode cX11_edge 66 = .ok (.ireturn, 1) := by decide +kernel
theorem dX11_edge_67 : decode cX11_edge 67 = .ok (.aload_n 0, 1) := by decide +kernel
theorem dX11_edge_68 : decode cX11_edge 68 = .ok (.getfield 10, 3) := by decide +kernel
theorem dX11_edge_71 : decode cX11_edge 71 = .ok (.getfield 97, 3) := by decide +kernel
theorem dX11_edge_74 : decode cX11_edge 74 = .ok (.iload_n 2, 1) := by decide +kernel
theorem dX11_edge_75 : decode cX11_edge 75 = .ok (.aaload, 1) := by decide +kernel
theorem dX11_edge_76 : decode cX11_edge 76 = .ok (.iload_n 3, 1) := by decide +kernel
theorem dX11_edge_77 : decode cX11_edge 77 = .ok (.iaload, 1) := by decide +kernel
theorem dX11_edge_78 : decode cX11_edge 78 = .ok (.istore 4, 2) := by decide +kernel
theorem dX11_edge_80 : decode cX11_edge 80 = .ok (.bipush (-4), 2) := by decide +kernel
theorem dX11_edge_82 : decode cX11_edge 82 = .ok (.istore 5, 2) := by decide +kernel
theorem dX11_edge_84 : decode cX11_edge 84 = .ok (.iconst 0, 1) := by decide +kernel
theorem dX11_edge_85 : decode cX11_edge 85 = .ok (.istore 6, 2) := by decide +kernel
theorem dX11_edge_87 : decode cX11_edge 87 = .ok (.iload 6, 2) := by decide +kernel
theorem dX11_edge_89 : decode cX11_edge 89 = .ok (.sipush 999, 3) := by decide +kernel
theorem dX11_edge_92 : decode cX11_edge 92 = .ok (.if_icmp .gt 46, 3) := by decide +kernel
theorem dX11_edge_95 : decode cX11_edge 95 = .ok (.iload 5, 2) := by decide +kernel
theorem dX11_edge_97 : decode cX11_edge 97 = .ok (.bipush (-4), 2) := by decide +kernel
theorem dX11_edge_99 : decode cX11_edge 99 = .ok (.if_icmp .ne 39, 3) := by decide +kernel
theorem dX11_edge_102 : decode cX11_edge 102 = .ok (.aload_n 0, 1) := by decide +kernel
theorem dX11_edge_103 : decode cX11_edge 103 = .ok (.getfield 10, 3) := by decide +kernel
theorem dX11_edge_106 : decode cX11_edge 106 = .ok (.getfield 97, 3) := by decide +kernel
theorem dX11_edge_109 : decode cX11_edge 109 = .ok (.iload_n 2, 1) := by decide +kernel
theorem dX11_edge_110 : decode cX11_edge 110 = .ok (.aaload, 1) := by decide +kernel
theorem dX11_edge_111 : decode cX11_edge 111 = .ok (.iload_n 3, 1) := by decide +kernel
theorem dX11_edge_112 : decode cX11_edge 112 = .ok (.iload 6, 2) := by decide +kernel
theorem dX11_edge_114 : decode cX11_edge 114 = .ok (.iastore, 1) := by decide +kernel
theorem dX11_edge_115 : decode cX11_edge 115 = .ok (.aload_n 0, 1) := by decide +kernel
theorem dX11_edge_116 : decode cX11_edge 116 = .ok (.getfield 31, 3) := by decide +kernel
theorem dX11_edge_119 : decode cX11_edge 119 = .ok (.iload_n 3, 1) := by decide +kernel
theorem dX11_edge_120 : decode cX11_edge 120 = .ok (.invokevirtual 229, 3) := by decide +kernel
theorem dX11_edge_123 : decode cX11_edge 123 = .ok (.bipush (-4), 2) := by decide +kernel
theorem dX11_edge_125 : decode cX11_edge 125 = .ok (.if_icmp .ne 7, 3) := by decide +kernel
theorem dX11_edge_128 : decode cX11_edge 128 = .ok (.iload 6, 2) := by decide +kernel
theorem dX11_edge_130 : decode cX11_edge 130 = .ok (.istore 5, 2) := by decide +kernel
theorem dX11_edge_132 : decode cX11_edge 132 = .ok (.iinc 6 1, 3) := by decide +kernel
theorem dX11_edge_135 : decode cX11_edge 135 = .ok (.goto (-48), 3) := by decide +kernel
theorem dX11_edge_138 : decode cX11_edge 138 = .ok (.aload_n 0, 1) := by decide +kernel
theorem dX11_edge_139 : decode cX11_edge 139 = .ok (.getfield 10, 3) := by decide +kernel
theorem dX11_edge_142 : decode cX11_edge 142 = .ok (.getfield 97, 3) := by decide +kernel
theorem dX11_edge_145 : decode cX11_edge 145 = .ok (.iload_n 2, 1) := by decide +kernel
theorem dX11_edge_146 : decode cX11_edge 146 = .ok (.aaload, 1) := by decide +kernel
theorem dX11_edge_147 : decode cX11_edge 147 = .ok (.iload_n 3, 1) := by decide +kernel
theorem dX11_edge_148 : decode cX11_edge 148 = .ok (.iload 4, 2) := by decide +kernel
theorem dX11_edge_150 : decode cX11_edge 150 = .ok (.iastore, 1) := by decide +kernel
theorem dX11_edge_151 : decode cX11_edge 151 = .ok (.iload 5, 2) := by decide +kernel
theorem dX11_edge_153 : decode cX11_edge 153 = .ok (.ireturn, 1) := by decide +kernel
set_option maxRecDepth 20000 in
theorem ggX11_run_X4_hasFit : GoodIn wsX11_run wsX4_hasFit := goodIn_r _ [12, 13, 14, 51, 52, 53, 54, 55, 56, 57, 58, 59] (by decide +kernel) (by decide +kernel)
set_option maxRecDepth 20000 in
theorem gX11_run_X4_hasFit : GoodIn wsX11_run (wsV RX11 111 RX4 yX4_hasFit wsX4_hasFit) := goodIn_app (goodIn_of _ (by decide +kernel)) ggX11_run_X4_hasFit
set_option maxRecDepth 20000 in
theorem ggX11_run_X7_lay : GoodIn wsX11_run wsX7_lay := goodIn_r _ [19, 20, 21, 22, 23, 37, 38, 39, 40, 41, 42, 43, 44, 45, 46, 47, 48, 49, 50, 51, 52, 53, 54, 55, 56, 57, 58, 59] (by decide +kernel) (by decide +kernel)
set_option maxRecDepth 20000 in
theorem gX11_run_X7_lay : GoodIn wsX11_run (wsV RX11 167 RX7 yX7_lay wsX7_lay) := goodIn_app (goodIn_of _ (by decide +kernel)) ggX11_run_X7_lay
set_option maxRecDepth 20000 in
theorem ggX11_run_X4_sortDrawn : GoodIn wsX11_run wsX4_sortDrawn := goodIn_r _ [27, 13, 28, 51, 52, 53, 54, 55, 56, 57, 58, 59] (by decide +kernel) (by decide +kernel)
set_option maxRecDepth 20000 in
theorem gX11_run_X4_sortDrawn : GoodIn wsX11_run (wsV RX11 236 RX4 yX4_sortDrawn wsX4_sortDrawn) := goodIn_app (goodIn_of _ (by decide +kernel)) ggX11_run_X4_sortDrawn
theorem dX11_run_0 : decode cX11_run 0 = .ok (.aload_n 0, 1) := by decide +kernel
theorem dX11_run_1 : decode cX11_run 1 = .ok (.getfield 70, 3) := by decide +kernel
theorem dX11_run_4 : decode cX11_run 4 = .ok (.ifCond .ne 6, 3) := by decide +kernel
theorem dX11_run_7 : decode cX11_run 7 = .ok (.bipush (-3), 2) := by decide +kernel
theorem dX11_run_9 : decode cX11_run 9 = .ok (.ireturn, 1) := by decide +kernel
theorem dX11_run_10 : decode cX11_run 10 = .ok (.aload_n 0, 1) := by decide +kernel
theorem dX11_run_11 : decode cX11_run 11 = .ok (.getfield 10, 3) := by decide +kernel
theorem dX11_run_14 : decode cX11_run 14 = .ok (.iload_n 1, 1) := by decide +kernel
theorem dX11_run_15 : decode cX11_run 15 = .ok (.invokevirtual 111, 3) := by decide +kernel
theorem dX11_run_18 : decode cX11_run 18 = .ok (.ifCond .eq 25, 3) := by decide +kernel
theorem dX11_run_21 : decode cX11_run 21 = .ok (.iload_n 2, 1) := by decide +kernel
theorem dX11_run_22 : decode cX11_run 22 = .ok (.iconst 1, 1) := by decide +kernel
theorem dX11_run_23 : decode cX11_run 23 = .ok (.if_icmp .lt 20, 3) := by decide +kernel
theorem dX11_run_26 : decode cX11_run 26 = .ok (.iload_n 2, 1) := by decide +kernel
theorem dX11_run_27 : decode cX11_run 27 = .ok (.bipush 99, 2) := by decide +kernel
theorem dX11_run_29 : decode cX11_run 29 = .ok (.if_icmp .gt 14, 3) := by decide +kernel
theorem dX11_run_32 : decode cX11_run 32 = .ok (.iload 4, 2) := by decide +kernel
theorem dX11_run_34 : decode cX11_run 34 = .ok (.ifCond .lt 9, 3) := by decide +kernel
theorem dX11_run_37 : decode cX11_run 37 = .ok (.iload 4, 2) := by decide +kernel
theorem dX11_run_39 : decode cX11_run 39 = .ok (.iconst 4, 1) := by decide +kernel
theorem dX11_run_40 : decode cX11_run 40 = .ok (.if_icmp .le 5, 3) := by decide +kernel
theorem dX11_run_43 : decode cX11_run 43 = .ok (.iconst (-1), 1) := by decide +kernel
theorem dX11_run_44 : decode cX11_run 44 = .ok (.ireturn, 1) := by decide +kernel
theorem dX11_run_45 : decode cX11_run 45 = .ok (.aload_n 0, 1) := by decide +kernel
theorem dX11_run_46 : decode cX11_run 46 = .ok (.getfield 31, 3) := by decide +kernel
theorem dX11_run_49 : decode cX11_run 49 = .ok (.iload_n 1, 1) := by decide +kernel
theorem dX11_run_50 : decode cX11_run 50 = .ok (.invokevirtual 167, 3) := by decide +kernel
theorem dX11_run_53 : decode cX11_run 53 = .ok (.iload_n 3, 1) := by decide +kernel
theorem dX11_run_54 : decode cX11_run 54 = .ok (.istore 5, 2) := by decide +kernel
theorem dX11_run_56 : decode cX11_run 56 = .ok (.iconst 0, 1) := by decide +kernel
theorem dX11_run_57 : decode cX11_run 57 = .ok (.istore 6, 2) := by decide +kernel
theorem dX11_run_59 : decode cX11_run 59 = .ok (.iconst 0, 1) := by decide +kernel
theorem dX11_run_60 : decode cX11_run 60 = .ok (.istore 7, 2) := by decide +kernel
theorem dX11_run_62 : decode cX11_run 62 = .ok (.iload 7, 2) := by decide +kernel
theorem dX11_run_64 : decode cX11_run 64 = .ok (.iload_n 2, 1) := by decide +kernel
theorem dX11_run_65 : decode cX11_run 65 = .ok (.if_icmp .ge 58, 3) := by decide +kernel
theorem dX11_run_68 : decode cX11_run 68 = .ok (.iload 5, 2) := by decide +kernel
theorem dX11_run_70 : decode cX11_run 70 = .ok (.ldc 232, 2) := by decide +kernel
theorem dX11_run_72 : decode cX11_run 72 = .ok (.imul, 1) := by decide +kernel
theorem dX11_run_73 : decode cX11_run 73 = .ok (.sipush 12345, 3) := by decide +kernel
theorem dX11_run_76 : decode cX11_run 76 = .ok (.iadd, 1) := by decide +kernel
theorem dX11_run_77 : decode cX11_run 77 = .ok (.istore 5, 2) := by decide +kernel
theorem dX11_run_79 : decode cX11_run 79 = .ok (.iload 5, 2) := by decide +kernel
theorem dX11_run_81 : decode cX11_run 81 = .ok (.ldc 233, 2) := by decide +kernel
theorem dX11_run_83 : decode cX11_run 83 = .ok (.iand, 1) := by decide +kernel
theorem dX11_run_84 : decode cX11_run 84 = .ok (.ldc 234, 2) := by decide +kernel
theorem dX11_run_86 : decode cX11_run 86 = .ok (.idiv, 1) := by decide +kernel
theorem dX11_run_87 : decode cX11_run 87 = .ok (.bipush 100, 2) := by decide +kernel
theorem dX11_run_89 : decode cX11_run 89 = .ok (.irem, 1) := by decide +kernel
theorem dX11_run_90 : decode cX11_run 90 = .ok (.istore 8, 2) := by decide +kernel
theorem dX11_run_92 : decode cX11_run 92 = .ok (.aload_n 0, 1) := by decide +kernel
theorem dX11_run_93 : decode cX11_run 93 = .ok (.getfield 31, 3) := by decide +kernel
theorem dX11_run_96 : decode cX11_run 96 = .ok (.getfield 235, 3) := by decide +kernel
theorem dX11_run_99 : decode cX11_run 99 = .ok (.aload_n 0, 1) := by decide +kernel
theorem dX11_run_100 : decode cX11_run 100 = .ok (.getfield 10, 3) := by decide +kernel
theorem dX11_run_103 : decode cX11_run 103 = .ok (.iload 8, 2) := by decide +kernel
theorem dX11_run_105 : decode cX11_run 105 = .ok (.invokevirtual 236, 3) := by decide +kernel
theorem dX11_run_108 : decode cX11_run 108 = .ok (.iaload, 1) := by decide +kernel
theorem dX11_run_109 : decode cX11_run 109 = .ok (.iload 4, 2) := by decide +kernel
theorem dX11_run_111 : decode cX11_run 111 = .ok (.if_icmp .ne 6, 3) := by decide +kernel
theorem dX11_run_114 : decode cX11_run 114 = .ok (.iinc 6 1, 3) := by decide +kernel
theorem dX11_run_117 : decode cX11_run 117 = .ok (.iinc 7 1, 3) := by decide +kernel
theorem dX11_run_120 : decode cX11_run 120 = .ok (.goto (-58), 3) := by decide +kernel
theorem dX11_run_123 : decode cX11_run 123 = .ok (.iload 6, 2) := by decide +kernel
theorem dX11_run_125 : decode cX11_run 125 = .ok (.ireturn, 1) := by decide +kernel
theorem dX11_rate_0 : decode cX11_rate 0 = .ok (.aload_n 0, 1) := by decide +kernel
theorem dX11_rate_1 : decode cX11_rate 1 = .ok (.getfield 70, 3) := by decide +kernel
theorem dX11_rate_4 : decode cX11_rate 4 = .ok (.ifCond .ne 6, 3) := by decide +kernel
theorem dX11_rate_7 : decode cX11_rate 7 = .ok (.bipush (-3), 2) := by decide +kernel
theorem dX11_rate_9 : decode cX11_rate 9 = .ok (.ireturn, 1) := by decide +kernel
theorem dX11_rate_10 : decode cX11_rate 10 = .ok (.iload_n 1, 1) := by decide +kernel
theorem dX11_rate_11 : decode cX11_rate 11 = .ok (.ifCond .lt 9, 3) := by decide +kernel
theorem dX11_rate_14 : decode cX11_rate 14 = .ok (.iload_n 1, 1) := by decide +kernel
theorem dX11_rate_15 : decode cX11_rate 15 = .ok (.bipush 100, 2) := by decide +kernel
theorem dX11_rate_17 : decode cX11_rate 17 = .ok (.if_icmp .le 5, 3) := by decide +kernel
theorem dX11_rate_20 : decode cX11_rate 20 = .ok (.iconst (-1), 1) := by decide +kernel
theorem dX11_rate_21 : decode cX11_rate 21 = .ok (.ireturn, 1) := by decide +kernel
theorem dX11_rate_22 : decode cX11_rate 22 = .ok (.aload_n 0, 1) := by decide +kernel
theorem dX11_rate_23 : decode cX11_rate 23 = .ok (.getfield 10, 3) := by decide +kernel
theorem dX11_rate_26 : decode cX11_rate 26 = .ok (.getfield 239, 3) := by decide +kernel
theorem dX11_rate_29 : decode cX11_rate 29 = .ok (.istore_n 2, 1) := by decide +kernel
theorem dX11_rate_30 : decode cX11_rate 30 = .ok (.aload_n 0, 1) := by decide +kernel
theorem dX11_rate_31 : decode cX11_rate 31 = .ok (.getfield 10, 3) := by decide +kernel
theorem dX11_rate_34 : decode cX11_rate 34 = .ok (.iload_n 1, 1) := by decide +kernel
theorem dX11_rate_35 : decode cX11_rate 35 = .ok (.putfield 239, 3) := by decide +kernel
theorem dX11_rate_38 : decode cX11_rate 38 = .ok (.iload_n 2, 1) := by decide +kernel
theorem dX11_rate_39 : decode cX11_rate 39 = .ok (.ireturn, 1) := by decide +kernel
set_option maxRecDepth 20000 in
theorem ggX11_years_X4_hasFit : GoodIn wsX11_years wsX4_hasFit := goodIn_r _ [9, 10, 11, 117, 118, 119, 120, 121, 122, 123, 124, 125] (by decide +kernel) (by decide +kernel)
set_option maxRecDepth 20000 in
theorem gX11_years_X4_hasFit : GoodIn wsX11_years (wsV RX11 111 RX4 yX4_hasFit wsX4_hasFit) := goodIn_app (goodIn_of _ (by decide +kernel)) ggX11_years_X4_hasFit
set_option maxRecDepth 20000 in
theorem ggX11_years_X4_hasSort : GoodIn wsX11_years wsX4_hasSort := goodIn_r _ [15, 10, 117, 118, 119, 120, 121, 122, 123, 124, 125] (by decide +kernel) (by decide +kernel)
set_option maxRecDepth 20000 in
theorem gX11_years_X4_hasSort : GoodIn wsX11_years (wsV RX11 74 RX4 yX4_hasSort wsX4_hasSort) := goodIn_app (goodIn_of _ (by decide +kernel)) ggX11_years_X4_hasSort
set_option maxRecDepth 20000 in
theorem ggX11_years_X11_isSpan : GoodIn wsX11_years wsX11_isSpan := goodIn_r _ [19] (by decide +kernel) (by decide +kernel)
set_option maxRecDepth 20000 in
theorem gX11_years_X11_isSpan : GoodIn wsX11_years (va_wsS RX11 242 yX11_isSpan wsX11_isSpan) := goodIn_app (goodIn_of _ (by decide +kernel)) ggX11_years_X11_isSpan
set_option maxRecDepth 20000 in
theorem ggX11_years_X11_isBit : GoodIn wsX11_years wsX11_isBit := goodIn_r _ [22] (by decide +kernel) (by decide +kernel)
set_option maxRecDepth 20000 in
theorem gX11_years_X11_isBit : GoodIn wsX11_years (va_wsS RX11 101 yX11_isBit wsX11_isBit) := goodIn_app (goodIn_of _ (by decide +kernel)) ggX11_years_X11_isBit
set_option maxRecDepth 20000 in
theorem ggX11_years_X7_weigh : GoodIn wsX11_years wsX7_weigh := goodIn_r _ [27, 28, 29, 30, 31, 32, 33, 34, 35, 26, 36, 37, 38, 39, 40, 41, 42, 43, 44, 45, 46, 47, 48, 49, 50, 51, 52, 53, 54, 55, 56, 13, 14, 8, 15, 10, 57, 58, 59, 60, 61, 62, 63, 64, 65, 126, 127, 128, 129, 130, 131, 132, 133, 134, 135, 136, 137, 138, 139, 117, 118, 119, 120, 121, 122, 123, 124, 125] (by decide +kernel) (by decide +kernel)
set_option maxRecDepth 20000 in
theorem gX11_years_X7_weigh : GoodIn wsX11_years (wsV RX11 116 RX7 yX7_weigh wsX7_weigh) := goodIn_app (goodIn_of _ (by decide +kernel)) ggX11_years_X7_weigh
set_option maxRecDepth 20000 in
theorem ggX11_years_X7_lookOver : GoodIn wsX11_years wsX7_lookOver := goodIn_r _ [69, 70, 71, 72, 73, 28, 74, 75, 63, 64, 65, 126, 127, 128, 129, 130, 131, 132, 133, 134, 135, 136, 137, 138, 139, 117, 118, 119, 120, 121, 122, 123, 124, 125] (by decide +kernel) (by decide +kernel)
set_option maxRecDepth 20000 in
theorem gX11_years_X7_lookOver : GoodIn wsX11_years (wsV RX11 245 RX7 yX7_lookOver wsX7_lookOver) := goodIn_app (goodIn_of _ (by decide +kernel)) ggX11_years_X7_lookOver
set_option maxRecDepth 20000 in
theorem ggX11_years_X7_ownTop : GoodIn wsX11_years wsX7_ownTop := goodIn_r _ [79, 39, 80, 81, 82, 26, 83, 72, 28, 84, 85, 86, 87, 71, 73, 30, 49, 31, 32, 126, 127, 128, 129, 130, 131, 132, 133, 134, 135, 136, 137, 138, 139, 117, 118, 119, 120, 121, 122, 123, 124, 125] (by decide +kernel) (by decide +kernel)
set_option maxRecDepth 20000 in
theorem gX11_years_X7_ownTop : GoodIn wsX11_years (wsV RX11 131 RX7 yX7_ownTop wsX7_ownTop) := goodIn_app (goodIn_of _ (by decide +kernel)) ggX11_years_X7_ownTop
set_option maxRecDepth 20000 in
theorem ggX11_years_X7_ownUnder : GoodIn wsX11_years wsX7_ownUnder := goodIn_r _ [91, 39, 92, 93, 94, 26, 95, 71, 32, 126, 127, 128, 129, 130, 131, 132, 133, 134, 135, 136, 137, 138, 139] (by decide +kernel) (by decide +kernel)
set_option maxRecDepth 20000 in
theorem gX11_years_X7_ownUnder : GoodIn wsX11_years (wsV RX11 135 RX7 yX7_ownUnder wsX7_ownUnder) := goodIn_app (goodIn_of _ (by decide +kernel)) ggX11_years_X7_ownUnder
set_option maxRecDepth 20000 in
theorem ggX11_years_X11_inLeastTerms : GoodIn wsX11_years wsX11_inLeastTerms := goodIn_r _ [98, 99, 100, 64, 101, 3, 102, 103, 18, 104] (by decide +kernel) (by decide +kernel)
set_option maxRecDepth 20000 in
theorem gX11_years_X11_inLeastTerms : GoodIn wsX11_years (va_wsS RX11 127 yX11_inLeastTerms wsX11_inLeastTerms) := goodIn_app (goodIn_of _ (by decide +kernel)) ggX11_years_X11_inLeastTerms
set_option maxRecDepth 20000 in
theorem ggX11_years_X7_lookAtOnce : GoodIn wsX11_years wsX7_lookAtOnce := goodIn_r _ [108, 71, 72, 73, 126, 127, 128, 129, 130, 131, 132, 133, 134, 135, 136, 137, 138, 139] (by decide +kernel) (by decide +kernel)
set_option maxRecDepth 20000 in
theorem gX11_years_X7_lookAtOnce : GoodIn wsX11_years (wsV RX11 248 RX7 yX7_lookAtOnce wsX7_lookAtOnce) := goodIn_app (goodIn_of _ (by decide +kernel)) ggX11_years_X7_lookAtOnce
theorem dX11_years_0 : decode cX11_years 0 = .ok (.aload_n 0, 1) := by decide +kernel
theorem dX11_years_1 : decode cX11_years 1 = .ok (.getfield 70, 3) := by decide +kernel
theorem dX11_years_4 : decode cX11_years 4 = .ok (.ifCond .eq 40, 3) := by decide +kernel
theorem dX11_years_7 : decode cX11_years 7 = .ok (.aload_n 0, 1) := by decide +kernel
theorem dX11_years_8 : decode cX11_years 8 = .ok (.getfield 10, 3) := by decide +kernel
theorem dX11_years_11 : decode cX11_years 11 = .ok (.iload_n 1, 1) := by decide +kernel
theorem dX11_years_12 : decode cX11_years 12 = .ok (.invokevirtual 111, 3) := by decide +kernel
theorem dX11_years_15 : decode cX11_years 15 = .ok (.ifCond .eq 29, 3) := by decide +kernel
theorem dX11_years_18 : decode cX11_years 18 = .ok (.aload_n 0, 1) := by decide +kernel
theorem dX11_years_19 : decode cX11_years 19 = .ok (.getfield 10, 3) := by decide +kernel
theorem dX11_years_22 : decode cX11_years 22 = .ok (.iload_n 2, 1) := by decide +kernel
theorem dX11_years_23 : decode cX11_years 23 = .ok (.invokevirtual 74, 3) := by decide +kernel
theorem dX11_years_26 : decode cX11_years 26 = .ok (.ifCond .eq 18, 3) := by decide +kernel
theorem dX11_years_29 : decode cX11_years 29 = .ok (.iload_n 3, 1) := by decide +kernel
theorem dX11_years_30 : decode cX11_years 30 = .ok (.invokestatic 242, 3) := by decide +kernel
theorem dX11_years_33 : decode cX11_years 33 = .ok (.ifCond .eq 11, 3) := by decide +kernel
theorem dX11_years_36 : decode cX11_years 36 = .ok (.iload 4, 2) := by decide +kernel
theorem dX11_years_38 : decode cX11_years 38 = .ok (.invokestatic 101, 3) := by decide +kernel
theorem dX11_years_41 : decode cX11_years 41 = .ok (.ifCond .ne 7, 3) := by decide +kernel
theorem dX11_years_44 : decode cX11_years 44 = .ok (.ldc2_w 114, 3) := by decide +kernel
theorem dX11_years_47 : decode cX11_years 47 = .ok (.lreturn, 1) := by decide +kernel
theorem dX11_years_48 : decode cX11_years 48 = .ok (.aload_n 0, 1) := by decide +kernel
theorem dX11_years_49 : decode cX11_years 49 = .ok (.getfield 31, 3) := by decide +kernel
theorem dX11_years_52 : decode cX11_years 52 = .ok (.iload_n 1, 1) := by decide +kernel
theorem dX11_years_53 : decode cX11_years 53 = .ok (.invokevirtual 116, 3) := by decide +kernel
theorem dX11_years_56 : decode cX11_years 56 = .ok (.aload_n 0, 1) := by decide +kernel
theorem dX11_years_57 : decode cX11_years 57 = .ok (.getfield 31, 3) := by decide +kernel
theorem dX11_years_60 : decode cX11_years 60 = .ok (.iload_n 3, 1) := by decide +kernel
theorem dX11_years_61 : decode cX11_years 61 = .ok (.invokevirtual 245, 3) := by decide +kernel
theorem dX11_years_64 : decode cX11_years 64 = .ok (.aload_n 0, 1) := by decide +kernel
theorem dX11_years_65 : decode cX11_years 65 = .ok (.getfield 31, 3) := by decide +kernel
theorem dX11_years_68 : decode cX11_years 68 = .ok (.iload_n 2, 1) := by decide +kernel
theorem dX11_years_69 : decode cX11_years 69 = .ok (.invokevirtual 131, 3) := by decide +kernel
theorem dX11_years_72 : decode cX11_years 72 = .ok (.aload_n 0, 1) := by decide +kernel
theorem dX11_years_73 : decode cX11_years 73 = .ok (.getfield 31, 3) := by decide +kernel
theorem dX11_years_76 : decode cX11_years 76 = .ok (.iload_n 2, 1) := by decide +kernel
theorem dX11_years_77 : decode cX11_years 77 = .ok (.invokevirtual 135, 3) := by decide +kernel
theorem dX11_years_80 : decode cX11_years 80 = .ok (.iload 4, 2) := by decide +kernel
theorem dX11_years_82 : decode cX11_years 82 = .ok (.invokestatic 127, 3) := by decide +kernel
theorem dX11_years_85 : decode cX11_years 85 = .ok (.lstore 5, 2) := by decide +kernel
theorem dX11_years_87 : decode cX11_years 87 = .ok (.aload_n 0, 1) := by decide +kernel
theorem dX11_years_88 : decode cX11_years 88 = .ok (.getfield 31, 3) := by decide +kernel
theorem dX11_years_91 : decode cX11_years 91 = .ok (.invokevirtual 248, 3) := by decide +kernel
theorem dX11_years_94 : decode cX11_years 94 = .ok (.lload 5, 2) := by decide +kernel
theorem dX11_years_96 : decode cX11_years 96 = .ok (.lreturn, 1) := by decide +kernel
set_option maxRecDepth 20000 in
theorem ggX11_ratherOver_X11_fitFault : GoodIn wsX11_ratherOver wsX11_fitFault := goodIn_r _ [6, 7, 8, 9, 10, 11, 12, 13, 14, 15, 100, 101, 102, 103, 104, 105, 106, 107, 108, 109, 110, 111, 112, 113, 114, 115, 116] (by decide +kernel) (by decide +kernel)
set_option maxRecDepth 20000 in
theorem gX11_ratherOver_X11_fitFault : GoodIn wsX11_ratherOver (wsV RX11 138 RX11 yX11_fitFault wsX11_fitFault) := goodIn_app (goodIn_of _ (by decide +kernel)) ggX11_ratherOver_X11_fitFault
set_option maxRecDepth 20000 in
theorem ggX11_ratherOver_X11_isSpan : GoodIn wsX11_ratherOver wsX11_isSpan := goodIn_r _ [18] (by decide +kernel) (by decide +kernel)
set_option maxRecDepth 20000 in
theorem gX11_ratherOver_X11_isSpan : GoodIn wsX11_ratherOver (va_wsS RX11 242 yX11_isSpan wsX11_isSpan) := goodIn_app (goodIn_of _ (by decide +kernel)) ggX11_ratherOver_X11_isSpan
set_option maxRecDepth 20000 in
theorem ggX11_ratherOver_X7_weigh : GoodIn wsX11_ratherOver wsX7_weigh := goodIn_r _ [23, 24, 25, 26, 27, 28, 29, 30, 31, 22, 32, 33, 34, 35, 36, 37, 38, 39, 40, 41, 42, 43, 44, 45, 46, 47, 48, 49, 50, 51, 52, 53, 54, 12, 55, 14, 56, 57, 58, 59, 60, 61, 62, 63, 64, 117, 118, 119, 120, 121, 122, 123, 124, 125, 126, 127, 128, 129, 130, 108, 109, 110, 111, 112, 113, 114, 115, 116] (by decide +kernel) (by decide +kernel)
set_option maxRecDepth 20000 in
theorem gX11_ratherOver_X7_weigh : GoodIn wsX11_ratherOver (wsV RX11 116 RX7 yX7_weigh wsX7_weigh) := goodIn_app (goodIn_of _ (by decide +kernel)) ggX11_ratherOver_X7_weigh
set_option maxRecDepth 20000 in
theorem ggX11_ratherOver_X7_lookOver : GoodIn wsX11_ratherOver wsX7_lookOver := goodIn_r _ [68, 69, 70, 71, 72, 24, 73, 74, 62, 63, 64, 117, 118, 119, 120, 121, 122, 123, 124, 125, 126, 127, 128, 129, 130, 108, 109, 110, 111, 112, 113, 114, 115, 116] (by decide +kernel) (by decide +kernel)
set_option maxRecDepth 20000 in
theorem gX11_ratherOver_X7_lookOver : GoodIn wsX11_ratherOver (wsV RX11 245 RX7 yX7_lookOver wsX7_lookOver) := goodIn_app (goodIn_of _ (by decide +kernel)) ggX11_ratherOver_X7_lookOver
set_option maxRecDepth 20000 in
theorem ggX11_ratherOver_X7_firstRather : GoodIn wsX11_ratherOver wsX7_firstRather := goodIn_r _ [78, 24, 34, 79, 80, 81, 22, 82, 35, 25, 83, 84, 85, 86, 87, 71, 88, 89, 90, 91, 70, 72, 26, 45, 27, 28, 92, 93, 94, 95, 117, 118, 119, 120, 121, 122, 123, 124, 125, 126, 127, 128, 129, 130, 108, 109, 110, 111, 112, 113, 114, 115, 116] (by decide +kernel) (by decide +kernel)
set_option maxRecDepth 20000 in
theorem gX11_ratherOver_X7_firstRather : GoodIn wsX11_ratherOver (wsV RX11 141 RX7 yX7_firstRather wsX7_firstRather) := goodIn_app (goodIn_of _ (by decide +kernel)) ggX11_ratherOver_X7_firstRather
set_option maxRecDepth 20000 in
theorem ggX11_ratherOver_X7_lookAtOnce : GoodIn wsX11_ratherOver wsX7_lookAtOnce := goodIn_r _ [99, 70, 71, 72, 117, 118, 119, 120, 121, 122, 123, 124, 125, 126, 127, 128, 129, 130] (by decide +kernel) (by decide +kernel)
set_option maxRecDepth 20000 in
theorem gX11_ratherOver_X7_lookAtOnce : GoodIn wsX11_ratherOver (wsV RX11 248 RX7 yX7_lookAtOnce wsX7_lookAtOnce) := goodIn_app (goodIn_of _ (by decide +kernel)) ggX11_ratherOver_X7_lookAtOnce
theorem dX11_ratherOver_0 : decode cX11_ratherOver 0 = .ok (.aload_n 0, 1) := by decide +kernel
theorem dX11_ratherOver_1 : decode cX11_ratherOver 1 = .ok (.iload_n 1, 1) := by decide +kernel
theorem dX11_ratherOver_2 : decode cX11_ratherOver 2 = .ok (.invokevirtual 138, 3) := by decide +kernel
theorem dX11_ratherOver_5 : decode cX11_ratherOver 5 = .ok (.istore_n 3, 1) := by decide +kernel
theorem dX11_ratherOver_6 : decode cX11_ratherOver 6 = .ok (.iload_n 3, 1) := by decide +kernel
theorem dX11_ratherOver_7 : decode cX11_ratherOver 7 = .ok (.ifCond .eq 5, 3) := by decide +kernel
theorem dX11_ratherOver_10 : decode cX11_ratherOver 10 = .ok (.iload_n 3, 1) := by decide +kernel
theorem dX11_ratherOver_11 : decode cX11_ratherOver 11 = .ok (.ireturn, 1) := by decide +kernel
theorem dX11_ratherOver_12 : decode cX11_ratherOver 12 = .ok (.iload_n 2, 1) := by decide +kernel
theorem dX11_ratherOver_13 : decode cX11_ratherOver 13 = .ok (.invokestatic 242, 3) := by decide +kernel
theorem dX11_ratherOver_16 : decode cX11_ratherOver 16 = .ok (.ifCond .ne 5, 3) := by decide +kernel
theorem dX11_ratherOver_19 : decode cX11_ratherOver 19 = .ok (.iconst (-1), 1) := by decide +kernel
theorem dX11_ratherOver_20 : decode cX11_ratherOver 20 = .ok (.ireturn, 1) := by decide +kernel
theorem dX11_ratherOver_21 : decode cX11_ratherOver 21 = .ok (.aload_n 0, 1) := by decide +kernel
theorem dX11_ratherOver_22 : decode cX11_ratherOver 22 = .ok (.getfield 31, 3) := by decide +kernel
theorem dX11_ratherOver_25 : decode cX11_ratherOver 25 = .ok (.iload_n 1, 1) := by decide +kernel
theorem dX11_ratherOver_26 : decode cX11_ratherOver 26 = .ok (.invokevirtual 116, 3) := by decide +kernel
theorem dX11_ratherOver_29 : decode cX11_ratherOver 29 = .ok (.aload_n 0, 1) := by decide +kernel
theorem dX11_ratherOver_30 : decode cX11_ratherOver 30 = .ok (.getfield 31, 3) := by decide +kernel
theorem dX11_ratherOver_33 : decode cX11_ratherOver 33 = .ok (.iload_n 2, 1) := by decide +kernel
theorem dX11_ratherOver_34 : decode cX11_ratherOver 34 = .ok (.invokevirtual 245, 3) := by decide +kernel
theorem dX11_ratherOver_37 : decode cX11_ratherOver 37 = .ok (.aload_n 0, 1) := by decide +kernel
theorem dX11_ratherOver_38 : decode cX11_ratherOver 38 = .ok (.getfield 31, 3) := by decide +kernel
theorem dX11_ratherOver_41 : decode cX11_ratherOver 41 = .ok (.invokevirtual 141, 3) := by decide +kernel
theorem dX11_ratherOver_44 : decode cX11_ratherOver 44 = .ok (.istore 4, 2) := by decide +kernel
theorem dX11_ratherOver_46 : decode cX11_ratherOver 46 = .ok (.aload_n 0, 1) := by decide +kernel
theorem dX11_ratherOver_47 : decode cX11_ratherOver 47 = .ok (.getfield 31, 3) := by decide +kernel
theorem dX11_ratherOver_50 : decode cX11_ratherOver 50 = .ok (.invokevirtual 248, 3) := by decide +kernel
theorem dX11_ratherOver_53 : decode cX11_ratherOver 53 = .ok (.iload 4, 2) := by decide +kernel
theorem dX11_ratherOver_55 : decode cX11_ratherOver 55 = .ok (.ireturn, 1) := by decide +kernel
set_option maxRecDepth 20000 in
theorem ggX11_bestTax_X4_hasMark : GoodIn wsX11_bestTax wsX4_hasMark := goodIn_r _ [10, 11, 133, 134, 135, 136, 137, 138, 139, 140, 141] (by decide +kernel) (by decide +kernel)
set_option maxRecDepth 20000 in
theorem gX11_bestTax_X4_hasMark : GoodIn wsX11_bestTax (wsV RX11 87 RX4 yX4_hasMark wsX4_hasMark) := goodIn_app (goodIn_of _ (by decide +kernel)) ggX11_bestTax_X4_hasMark
set_option maxRecDepth 20000 in
theorem ggX11_bestTax_X11_isBit : GoodIn wsX11_bestTax wsX11_isBit := goodIn_r _ [15] (by decide +kernel) (by decide +kernel)
set_option maxRecDepth 20000 in
theorem gX11_bestTax_X11_isBit : GoodIn wsX11_bestTax (va_wsS RX11 101 yX11_isBit wsX11_isBit) := goodIn_app (goodIn_of _ (by decide +kernel)) ggX11_bestTax_X11_isBit
set_option maxRecDepth 20000 in
theorem ggX11_bestTax_X11_leastWaste : GoodIn wsX11_bestTax wsX11_leastWaste := goodIn_r _ [19, 2, 3, 20, 21, 22, 9, 23, 24, 25, 26, 27, 14, 28, 29, 30, 31, 32, 11, 33, 34, 35, 36, 37, 38, 39, 40, 41, 42, 43, 44, 45, 46, 47, 48, 49, 50, 51, 52, 53, 54, 55, 56, 57, 58, 59, 60, 61, 62, 63, 64, 65, 66, 67, 68, 69, 70, 71, 72, 73, 74, 75, 76, 77, 78, 79, 80, 81, 82, 83, 84, 85, 86, 87, 88, 89, 90, 91, 92, 93, 94, 95, 96, 97, 98, 99, 100, 101, 102, 103, 104, 105, 106, 107, 108, 109, 110, 111, 112, 113, 114, 115, 116, 117, 118, 133, 134, 135, 136, 137, 138, 139, 140, 141, 119, 120, 121, 122, 123, 124, 125, 126, 127, 128, 129, 130, 131, 132] (by decide +kernel) (by decide +kernel)
set_option maxRecDepth 20000 in
theorem gX11_bestTax_X11_leastWaste : GoodIn wsX11_bestTax (wsV RX11 206 RX11 yX11_leastWaste wsX11_leastWaste) := goodIn_app (goodIn_of _ (by decide +kernel)) ggX11_bestTax_X11_leastWaste
theorem dX11_bestTax_0 : decode cX11_bestTax 0 = .ok (.aload_n 0, 1) := by decide +kernel
theorem dX11_bestTax_1 : decode cX11_bestTax 1 = .ok (.getfield 70, 3) := by decide +kernel
theorem dX11_bestTax_4 : decode cX11_bestTax 4 = .ok (.ifCond .ne 6, 3) := by decide +kernel
theorem dX11_bestTax_7 : decode cX11_bestTax 7 = .ok (.bipush (-3), 2) := by decide +kernel
theorem dX11_bestTax_9 : decode cX11_bestTax 9 = .ok (.ireturn, 1) := by decide +kernel
theorem dX11_bestTax_10 : decode cX11_bestTax 10 = .ok (.aload_n 0, 1) := by decide +kernel
theorem dX11_bestTax_11 : decode cX11_bestTax 11 = .ok (.getfield 10, 3) := by decide +kernel
theorem dX11_bestTax_14 : decode cX11_bestTax 14 = .ok (.iload_n 1, 1) := by decide +kernel
theorem dX11_bestTax_15 : decode cX11_bestTax 15 = .ok (.invokevirtual 87, 3) := by decide +kernel
theorem dX11_bestTax_18 : decode cX11_bestTax 18 = .ok (.ifCond .eq 10, 3) := by decide +kernel
theorem dX11_bestTax_21 : decode cX11_bestTax 21 = .ok (.iload_n 2, 1) := by decide +kernel
theorem dX11_bestTax_22 : decode cX11_bestTax 22 = .ok (.invokestatic 101, 3) := by decide +kernel
theorem dX11_bestTax_25 : decode cX11_bestTax 25 = .ok (.ifCond .ne 5, 3) := by decide +kernel
theorem dX11_bestTax_28 : decode cX11_bestTax 28 = .ok (.iconst (-1), 1) := by decide +kernel
theorem dX11_bestTax_29 : decode cX11_bestTax 29 = .ok (.ireturn, 1) := by decide +kernel
theorem dX11_bestTax_30 : decode cX11_bestTax 30 = .ok (.bipush (-4), 2) := by decide +kernel
theorem dX11_bestTax_32 : decode cX11_bestTax 32 = .ok (.istore_n 3, 1) := by decide +kernel
theorem dX11_bestTax_33 : decode cX11_bestTax 33 = .ok (.bipush (-4), 2) := by decide +kernel
theorem dX11_bestTax_35 : decode cX11_bestTax 35 = .ok (.istore 4, 2) := by decide +kernel
theorem dX11_bestTax_37 : decode cX11_bestTax 37 = .ok (.aload_n 0, 1) := by decide +kernel
theorem dX11_bestTax_38 : decode cX11_bestTax 38 = .ok (.getfield 31, 3) := by decide +kernel
theorem dX11_bestTax_41 : decode cX11_bestTax 41 = .ok (.iload_n 1, 1) := by decide +kernel
theorem dX11_bestTax_42 : decode cX11_bestTax 42 = .ok (.putfield 251, 3) := by decide +kernel
theorem dX11_bestTax_45 : decode cX11_bestTax 45 = .ok (.iconst 0, 1) := by decide +kernel
theorem dX11_bestTax_46 : decode cX11_bestTax 46 = .ok (.istore 5, 2) := by decide +kernel
theorem dX11_bestTax_48 : decode cX11_bestTax 48 = .ok (.iload 5, 2) := by decide +kernel
theorem dX11_bestTax_50 : decode cX11_bestTax 50 = .ok (.bipush 90, 2) := by decide +kernel
theorem dX11_bestTax_52 : decode cX11_bestTax 52 = .ok (.if_icmp .gt 52, 3) := by decide +kernel
theorem dX11_bestTax_55 : decode cX11_bestTax 55 = .ok (.aload_n 0, 1) := by decide +kernel
theorem dX11_bestTax_56 : decode cX11_bestTax 56 = .ok (.getfield 31, 3) := by decide +kernel
theorem dX11_bestTax_59 : decode cX11_bestTax 59 = .ok (.iload 5, 2) := by decide +kernel
theorem dX11_bestTax_61 : decode cX11_bestTax 61 = .ok (.putfield 254, 3) := by decide +kernel
theorem dX11_bestTax_64 : decode cX11_bestTax 64 = .ok (.aload_n 0, 1) := by decide +kernel
theorem dX11_bestTax_65 : decode cX11_bestTax 65 = .ok (.invokevirtual 206, 3) := by decide +kernel
theorem dX11_bestTax_68 : decode cX11_bestTax 68 = .ok (.istore 6, 2) := by decide +kernel
theorem dX11_bestTax_70 : decode cX11_bestTax 70 = .ok (.iload 6, 2) := by decide +kernel
theorem dX11_bestTax_72 : decode cX11_bestTax 72 = .ok (.bipush (-4), 2) := by decide +kernel
theorem dX11_bestTax_74 : decode cX11_bestTax 74 = .ok (.if_icmp .eq 24, 3) := by decide +kernel
theorem dX11_bestTax_77 : decode cX11_bestTax 77 = .ok (.iload 4, 2) := by decide +kernel
theorem dX11_bestTax_79 : decode cX11_bestTax 79 = .ok (.bipush (-4), 2) := by decide +kernel
theorem dX11_bestTax_81 : decode cX11_bestTax 81 = .ok (.if_icmp .eq 10, 3) := by decide +kernel
theorem dX11_bestTax_84 : decode cX11_bestTax 84 = .ok (.iload 6, 2) := by decide +kernel
theorem dX11_bestTax_86 : decode cX11_bestTax 86 = .ok (.iload 4, 2) := by decide +kernel
theorem dX11_bestTax_88 : decode cX11_bestTax 88 = .ok (.if_icmp .ge 10, 3) := by decide +kernel
theorem dX11_bestTax_91 : decode cX11_bestTax 91 = .ok (.iload 5, 2) := by decide +kernel
theorem dX11_bestTax_93 : decode cX11_bestTax 93 = .ok (.istore_n 3, 1) := by decide +kernel
theorem dX11_bestTax_94 : decode cX11_bestTax 94 = .ok (.iload 6, 2) := by decide +kernel
theorem dX11_bestTax_96 : decode cX11_bestTax 96 = .ok (.istore 4, 2) := by decide +kernel
theorem dX11_bestTax_98 : decode cX11_bestTax 98 = .ok (.iinc 5 10, 3) := by decide +kernel
theorem dX11_bestTax_101 : decode cX11_bestTax 101 = .ok (.goto (-53), 3) := by decide +kernel
theorem dX11_bestTax_104 : decode cX11_bestTax 104 = .ok (.aload_n 0, 1) := by decide +kernel
theorem dX11_bestTax_105 : decode cX11_bestTax 105 = .ok (.getfield 31, 3) := by decide +kernel
theorem dX11_bestTax_108 : decode cX11_bestTax 108 = .ok (.iconst 0, 1) := by decide +kernel
theorem dX11_bestTax_109 : decode cX11_bestTax 109 = .ok (.putfield 254, 3) := by decide +kernel
theorem dX11_bestTax_112 : decode cX11_bestTax 112 = .ok (.iload_n 2, 1) := by decide +kernel
theorem dX11_bestTax_113 : decode cX11_bestTax 113 = .ok (.ifCond .ne 7, 3) := by decide +kernel
theorem dX11_bestTax_116 : decode cX11_bestTax 116 = .ok (.iload_n 3, 1) := by decide +kernel
theorem dX11_bestTax_117 : decode cX11_bestTax 117 = .ok (.goto 5, 3) := by decide +kernel
theorem dX11_bestTax_120 : decode cX11_bestTax 120 = .ok (.iload 4, 2) := by decide +kernel
theorem dX11_bestTax_122 : decode cX11_bestTax 122 = .ok (.ireturn, 1) := by decide +kernel
set_option maxRecDepth 20000 in
theorem ggX11_moved_X4_hasFit : GoodIn wsX11_moved wsX4_hasFit := goodIn_r _ [8, 9, 10, 105, 106, 107, 108, 109, 110, 111, 112, 113] (by decide +kernel) (by decide +kernel)
set_option maxRecDepth 20000 in
theorem gX11_moved_X4_hasFit : GoodIn wsX11_moved (wsV RX11 111 RX4 yX4_hasFit wsX4_hasFit) := goodIn_app (goodIn_of _ (by decide +kernel)) ggX11_moved_X4_hasFit
set_option maxRecDepth 20000 in
theorem ggX11_moved_X4_hasSort : GoodIn wsX11_moved wsX4_hasSort := goodIn_r _ [14, 9, 105, 106, 107, 108, 109, 110, 111, 112, 113] (by decide +kernel) (by decide +kernel)
set_option maxRecDepth 20000 in
theorem gX11_moved_X4_hasSort : GoodIn wsX11_moved (wsV RX11 74 RX4 yX4_hasSort wsX4_hasSort) := goodIn_app (goodIn_of _ (by decide +kernel)) ggX11_moved_X4_hasSort
set_option maxRecDepth 20000 in
theorem ggX11_moved_X11_isSureFit : GoodIn wsX11_moved wsX11_isSureFit := goodIn_r _ [19, 2, 20, 4, 5, 6, 7, 8, 9, 10, 21, 22, 23, 24, 25, 26, 27, 28, 29, 30, 31, 32, 33, 34, 35, 36, 37, 38, 39, 40, 41, 42, 43, 44, 45, 46, 47, 48, 49, 50, 51, 52, 53, 54, 12, 13, 14, 55, 56, 57, 58, 59, 60, 61, 62, 63, 64, 65, 66, 67, 68, 69, 70, 71, 72, 73, 74, 75, 76, 77, 78, 79, 80, 81, 82, 83, 84, 85, 86, 87, 88, 89, 90, 91, 97, 98, 99, 100, 101, 102, 103, 104, 105, 106, 107, 108, 109, 110, 111, 112, 113, 114, 115, 116, 117, 118, 119, 120, 121, 122, 123, 124, 125, 126, 127] (by decide +kernel) (by decide +kernel)
set_option maxRecDepth 20000 in
theorem gX11_moved_X11_isSureFit : GoodIn wsX11_moved (wsV RX11 148 RX11 yX11_isSureFit wsX11_isSureFit) := goodIn_app (goodIn_of _ (by decide +kernel)) ggX11_moved_X11_isSureFit
set_option maxRecDepth 20000 in
theorem ggX11_moved_X4_moveChance : GoodIn wsX11_moved wsX4_moveChance := goodIn_r _ [95, 96, 105, 106, 107, 108, 109, 110, 111, 112, 113] (by decide +kernel) (by decide +kernel)
set_option maxRecDepth 20000 in
theorem gX11_moved_X4_moveChance : GoodIn wsX11_moved (wsV RX11 257 RX4 yX4_moveChance wsX4_moveChance) := goodIn_app (goodIn_of _ (by decide +kernel)) ggX11_moved_X4_moveChance
theorem dX11_moved_0 : decode cX11_moved 0 = .ok (.aload_n 0, 1) := by decide +kernel
theorem dX11_moved_1 : decode cX11_moved 1 = .ok (.getfield 70, 3) := by decide +kernel
theorem dX11_moved_4 : decode cX11_moved 4 = .ok (.ifCond .ne 6, 3) := by decide +kernel
theorem dX11_moved_7 : decode cX11_moved 7 = .ok (.bipush (-3), 2) := by decide +kernel
theorem dX11_moved_9 : decode cX11_moved 9 = .ok (.ireturn, 1) := by decide +kernel
theorem dX11_moved_10 : decode cX11_moved 10 = .ok (.aload_n 0, 1) := by decide +kernel
theorem dX11_moved_11 : decode cX11_moved 11 = .ok (.getfield 10, 3) := by decide +kernel
theorem dX11_moved_14 : decode cX11_moved 14 = .ok (.iload_n 1, 1) := by decide +kernel
theorem dX11_moved_15 : decode cX11_moved 15 = .ok (.invokevirtual 111, 3) := by decide +kernel
theorem dX11_moved_18 : decode cX11_moved 18 = .ok (.ifCond .eq 30, 3) := by decide +kernel
theorem dX11_moved_21 : decode cX11_moved 21 = .ok (.aload_n 0, 1) := by decide +kernel
theorem dX11_moved_22 : decode cX11_moved 22 = .ok (.getfield 10, 3) := by decide +kernel
theorem dX11_moved_25 : decode cX11_moved 25 = .ok (.iload_n 2, 1) := by decide +kernel
theorem dX11_moved_26 : decode cX11_moved 26 = .ok (.invokevirtual 74, 3) := by decide +kernel
theorem dX11_moved_29 : decode cX11_moved 29 = .ok (.ifCond .eq 19, 3) := by decide +kernel
theorem dX11_moved_32 : decode cX11_moved 32 = .ok (.aload_n 0, 1) := by decide +kernel
theorem dX11_moved_33 : decode cX11_moved 33 = .ok (.getfield 10, 3) := by decide +kernel
theorem dX11_moved_36 : decode cX11_moved 36 = .ok (.iload_n 3, 1) := by decide +kernel
theorem dX11_moved_37 : decode cX11_moved 37 = .ok (.invokevirtual 74, 3) := by decide +kernel
theorem dX11_moved_40 : decode cX11_moved 40 = .ok (.ifCond .eq 8, 3) := by decide +kernel
theorem dX11_moved_43 : decode cX11_moved 43 = .ok (.iload_n 2, 1) := by decide +kernel
theorem dX11_moved_44 : decode cX11_moved 44 = .ok (.iload_n 3, 1) := by decide +kernel
theorem dX11_moved_45 : decode cX11_moved 45 = .ok (.if_icmp .ne 5, 3) := by decide +kernel
theorem dX11_moved_48 : decode cX11_moved 48 = .ok (.iconst (-1), 1) := by decide +kernel
theorem dX11_moved_49 : decode cX11_moved 49 = .ok (.ireturn, 1) := by decide +kernel
theorem dX11_moved_50 : decode cX11_moved 50 = .ok (.aload_n 0, 1) := by decide +kernel
theorem dX11_moved_51 : decode cX11_moved 51 = .ok (.iload_n 1, 1) := by decide +kernel
theorem dX11_moved_52 : decode cX11_moved 52 = .ok (.invokevirtual 148, 3) := by decide +kernel
theorem dX11_moved_55 : decode cX11_moved 55 = .ok (.istore 4, 2) := by decide +kernel
theorem dX11_moved_57 : decode cX11_moved 57 = .ok (.aload_n 0, 1) := by decide +kernel
theorem dX11_moved_58 : decode cX11_moved 58 = .ok (.getfield 10, 3) := by decide +kernel
theorem dX11_moved_61 : decode cX11_moved 61 = .ok (.getfield 77, 3) := by decide +kernel
theorem dX11_moved_64 : decode cX11_moved 64 = .ok (.iload_n 2, 1) := by decide +kernel
theorem dX11_moved_65 : decode cX11_moved 65 = .ok (.iaload, 1) := by decide +kernel
theorem dX11_moved_66 : decode cX11_moved 66 = .ok (.iconst 1, 1) := by decide +kernel
theorem dX11_moved_67 : decode cX11_moved 67 = .ok (.isub, 1) := by decide +kernel
theorem dX11_moved_68 : decode cX11_moved 68 = .ok (.istore 5, 2) := by decide +kernel
theorem dX11_moved_70 : decode cX11_moved 70 = .ok (.iconst 0, 1) := by decide +kernel
theorem dX11_moved_71 : decode cX11_moved 71 = .ok (.istore 6, 2) := by decide +kernel
theorem dX11_moved_73 : decode cX11_moved 73 = .ok (.bipush (-4), 2) := by decide +kernel
theorem dX11_moved_75 : decode cX11_moved 75 = .ok (.istore 7, 2) := by decide +kernel
theorem dX11_moved_77 : decode cX11_moved 77 = .ok (.iload 6, 2) := by decide +kernel
theorem dX11_moved_79 : decode cX11_moved 79 = .ok (.iload 5, 2) := by decide +kernel
theorem dX11_moved_81 : decode cX11_moved 81 = .ok (.if_icmp .ge 40, 3) := by decide +kernel
theorem dX11_moved_84 : decode cX11_moved 84 = .ok (.iload 7, 2) := by decide +kernel
theorem dX11_moved_86 : decode cX11_moved 86 = .ok (.bipush (-4), 2) := by decide +kernel
theorem dX11_moved_88 : decode cX11_moved 88 = .ok (.if_icmp .ne 33, 3) := by decide +kernel
theorem dX11_moved_91 : decode cX11_moved 91 = .ok (.iinc 6 1, 3) := by decide +kernel
theorem dX11_moved_94 : decode cX11_moved 94 = .ok (.aload_n 0, 1) := by decide +kernel
theorem dX11_moved_95 : decode cX11_moved 95 = .ok (.getfield 10, 3) := by decide +kernel
theorem dX11_moved_98 : decode cX11_moved 98 = .ok (.iload_n 2, 1) := by decide +kernel
theorem dX11_moved_99 : decode cX11_moved 99 = .ok (.iload_n 3, 1) := by decide +kernel
theorem dX11_moved_100 : decode cX11_moved 100 = .ok (.iconst 1, 1) := by decide +kernel
theorem dX11_moved_101 : decode cX11_moved 101 = .ok (.invokevirtual 257, 3) := by decide +kernel
theorem dX11_moved_104 : decode cX11_moved 104 = .ok (.aload_n 0, 1) := by decide +kernel
theorem dX11_moved_105 : decode cX11_moved 105 = .ok (.iload_n 1, 1) := by decide +kernel
theorem dX11_moved_106 : decode cX11_moved 106 = .ok (.invokevirtual 148, 3) := by decide +kernel
theorem dX11_moved_109 : decode cX11_moved 109 = .ok (.iload 4, 2) := by decide +kernel
theorem dX11_moved_111 : decode cX11_moved 111 = .ok (.if_icmp .eq (-34), 3) := by decide +kernel
theorem dX11_moved_114 : decode cX11_moved 114 = .ok (.iload 6, 2) := by decide +kernel
theorem dX11_moved_116 : decode cX11_moved 116 = .ok (.istore 7, 2) := by decide +kernel
theorem dX11_moved_118 : decode cX11_moved 118 = .ok (.goto (-41), 3) := by decide +kernel
theorem dX11_moved_121 : decode cX11_moved 121 = .ok (.aload_n 0, 1) := by decide +kernel
theorem dX11_moved_122 : decode cX11_moved 122 = .ok (.getfield 10, 3) := by decide +kernel
theorem dX11_moved_125 : decode cX11_moved 125 = .ok (.iload_n 3, 1) := by decide +kernel
theorem dX11_moved_126 : decode cX11_moved 126 = .ok (.iload_n 2, 1) := by decide +kernel
theorem dX11_moved_127 : decode cX11_moved 127 = .ok (.iload 6, 2) := by decide +kernel
theorem dX11_moved_129 : decode cX11_moved 129 = .ok (.invokevirtual 257, 3) := by decide +kernel
theorem dX11_moved_132 : decode cX11_moved 132 = .ok (.iload 7, 2) := by decide +kernel
theorem dX11_moved_134 : decode cX11_moved 134 = .ok (.ireturn, 1) := by decide +kernel
set_option maxRecDepth 20000 in
theorem ggX11_losers_X11_fitFault : GoodIn wsX11_losers wsX11_fitFault := goodIn_r _ [8, 9, 2, 10, 11, 12, 13, 14, 15, 16, 102, 103, 104, 105, 106, 107, 108, 109, 110, 111, 112, 113, 114, 115, 116, 117, 118] (by decide +kernel) (by decide +kernel)
set_option maxRecDepth 20000 in
theorem gX11_losers_X11_fitFault : GoodIn wsX11_losers (wsV RX11 138 RX11 yX11_fitFault wsX11_fitFault) := goodIn_app (goodIn_of _ (by decide +kernel)) ggX11_losers_X11_fitFault
set_option maxRecDepth 20000 in
theorem ggX11_losers_X11_isBit : GoodIn wsX11_losers wsX11_isBit := goodIn_r _ [19] (by decide +kernel) (by decide +kernel)
set_option maxRecDepth 20000 in
theorem gX11_losers_X11_isBit : GoodIn wsX11_losers (va_wsS RX11 101 yX11_isBit wsX11_isBit) := goodIn_app (goodIn_of _ (by decide +kernel)) ggX11_losers_X11_isBit
set_option maxRecDepth 20000 in
theorem ggX11_losers_X7_weigh : GoodIn wsX11_losers wsX7_weigh := goodIn_r _ [24, 25, 26, 27, 28, 29, 30, 31, 32, 23, 33, 34, 35, 36, 37, 38, 39, 40, 41, 42, 43, 44, 45, 46, 47, 48, 49, 50, 51, 52, 53, 54, 55, 13, 56, 15, 57, 58, 59, 60, 61, 62, 63, 64, 65, 119, 120, 121, 122, 123, 124, 125, 126, 127, 128, 129, 130, 131, 132, 110, 111, 112, 113, 114, 115, 116, 117, 118] (by decide +kernel) (by decide +kernel)
set_option maxRecDepth 20000 in
theorem gX11_losers_X7_weigh : GoodIn wsX11_losers (wsV RX11 116 RX7 yX7_weigh wsX7_weigh) := goodIn_app (goodIn_of _ (by decide +kernel)) ggX11_losers_X7_weigh
set_option maxRecDepth 20000 in
theorem ggX11_losers_X7_gainTop : GoodIn wsX11_losers wsX7_gainTop := goodIn_r _ [69, 25, 46, 70, 71, 72, 64, 73, 74, 75, 76, 77, 13, 78, 15, 79, 61, 80, 81, 82, 23, 83, 36, 84, 85, 86, 87, 88, 89, 90, 91, 92, 93, 27, 28, 29, 94, 95, 96, 97, 98, 99, 100, 101, 119, 120, 121, 122, 123, 124, 125, 126, 127, 128, 129, 130, 131, 132, 110, 111, 112, 113, 114, 115, 116, 117, 118] (by decide +kernel) (by decide +kernel)
set_option maxRecDepth 20000 in
theorem gX11_losers_X7_gainTop : GoodIn wsX11_losers (wsV RX11 189 RX7 yX7_gainTop wsX7_gainTop) := goodIn_app (goodIn_of _ (by decide +kernel)) ggX11_losers_X7_gainTop
theorem dX11_losers_0 : decode cX11_losers 0 = .ok (.aload_n 0, 1) := by decide +kernel
theorem dX11_losers_1 : decode cX11_losers 1 = .ok (.iload_n 1, 1) := by decide +kernel
theorem dX11_losers_2 : decode cX11_losers 2 = .ok (.invokevirtual 138, 3) := by decide +kernel
theorem dX11_losers_5 : decode cX11_losers 5 = .ok (.istore_n 3, 1) := by decide +kernel
theorem dX11_losers_6 : decode cX11_losers 6 = .ok (.iload_n 3, 1) := by decide +kernel
theorem dX11_losers_7 : decode cX11_losers 7 = .ok (.ifCond .eq 5, 3) := by decide +kernel
theorem dX11_losers_10 : decode cX11_losers 10 = .ok (.iload_n 3, 1) := by decide +kernel
theorem dX11_losers_11 : decode cX11_losers 11 = .ok (.ireturn, 1) := by decide +kernel
theorem dX11_losers_12 : decode cX11_losers 12 = .ok (.iload_n 2, 1) := by decide +kernel
theorem dX11_losers_13 : decode cX11_losers 13 = .ok (.invokestatic 101, 3) := by decide +kernel
theorem dX11_losers_16 : decode cX11_losers 16 = .ok (.ifCond .ne 5, 3) := by decide +kernel
theorem dX11_losers_19 : decode cX11_losers 19 = .ok (.iconst (-1), 1) := by decide +kernel
theorem dX11_losers_20 : decode cX11_losers 20 = .ok (.ireturn, 1) := by decide +kernel
theorem dX11_losers_21 : decode cX11_losers 21 = .ok (.aload_n 0, 1) := by decide +kernel
theorem dX11_losers_22 : decode cX11_losers 22 = .ok (.getfield 31, 3) := by decide +kernel
theorem dX11_losers_25 : decode cX11_losers 25 = .ok (.iload_n 1, 1) := by decide +kernel
theorem dX11_losers_26 : decode cX11_losers 26 = .ok (.invokevirtual 116, 3) := by decide +kernel
theorem dX11_losers_29 : decode cX11_losers 29 = .ok (.iconst 0, 1) := by decide +kernel
theorem dX11_losers_30 : decode cX11_losers 30 = .ok (.istore 4, 2) := by decide +kernel
theorem dX11_losers_32 : decode cX11_losers 32 = .ok (.iconst 0, 1) := by decide +kernel
theorem dX11_losers_33 : decode cX11_losers 33 = .ok (.istore 5, 2) := by decide +kernel
theorem dX11_losers_35 : decode cX11_losers 35 = .ok (.iload 5, 2) := by decide +kernel
theorem dX11_losers_37 : decode cX11_losers 37 = .ok (.aload_n 0, 1) := by decide +kernel
theorem dX11_losers_38 : decode cX11_losers 38 = .ok (.getfield 10, 3) := by decide +kernel
theorem dX11_losers_41 : decode cX11_losers 41 = .ok (.getfield 261, 3) := by decide +kernel
theorem dX11_losers_44 : decode cX11_losers 44 = .ok (.if_icmp .ge 33, 3) := by decide +kernel
theorem dX11_losers_47 : decode cX11_losers 47 = .ok (.aload_n 0, 1) := by decide +kernel
theorem dX11_losers_48 : decode cX11_losers 48 = .ok (.getfield 31, 3) := by decide +kernel
theorem dX11_losers_51 : decode cX11_losers 51 = .ok (.iload 5, 2) := by decide +kernel
theorem dX11_losers_53 : decode cX11_losers 53 = .ok (.iload_n 2, 1) := by decide +kernel
theorem dX11_losers_54 : decode cX11_losers 54 = .ok (.invokevirtual 189, 3) := by decide +kernel
theorem dX11_losers_57 : decode cX11_losers 57 = .ok (.lconst 0, 1) := by decide +kernel
theorem dX11_losers_58 : decode cX11_losers 58 = .ok (.lcmp, 1) := by decide +kernel
theorem dX11_losers_59 : decode cX11_losers 59 = .ok (.ifCond .ge 12, 3) := by decide +kernel
theorem dX11_losers_62 : decode cX11_losers 62 = .ok (.iload 4, 2) := by decide +kernel
theorem dX11_losers_64 : decode cX11_losers 64 = .ok (.iconst 1, 1) := by decide +kernel
theorem dX11_losers_65 : decode cX11_losers 65 = .ok (.iload 5, 2) := by decide +kernel
theorem dX11_losers_67 : decode cX11_losers 67 = .ok (.ishl, 1) := by decide +kernel
theorem dX11_losers_68 : decode cX11_losers 68 = .ok (.ior, 1) := by decide +kernel
theorem dX11_losers_69 : decode cX11_losers 69 = .ok (.istore 4, 2) := by decide +kernel
theorem dX11_losers_71 : decode cX11_losers 71 = .ok (.iinc 5 1, 3) := by decide +kernel
theorem dX11_losers_74 : decode cX11_losers 74 = .ok (.goto (-39), 3) := by decide +kernel
theorem dX11_losers_77 : decode cX11_losers 77 = .ok (.iload 4, 2) := by decide +kernel
theorem dX11_losers_79 : decode cX11_losers 79 = .ok (.ireturn, 1) := by decide +kernel
set_option maxRecDepth 20000 in
theorem ggX11_standing_X4_fitNumbers : GoodIn wsX11_standing wsX4_fitNumbers := goodIn_r _ [8, 9, 55, 56, 57, 58, 59, 60, 61, 62, 63] (by decide +kernel) (by decide +kernel)
set_option maxRecDepth 20000 in
theorem gX11_standing_X4_fitNumbers : GoodIn wsX11_standing (wsV RX11 145 RX4 yX4_fitNumbers wsX4_fitNumbers) := goodIn_app (goodIn_of _ (by decide +kernel)) ggX11_standing_X4_fitNumbers
set_option maxRecDepth 20000 in
theorem ggX11_standing_X4_hasFit : GoodIn wsX11_standing wsX4_hasFit := goodIn_r _ [13, 9, 14, 55, 56, 57, 58, 59, 60, 61, 62, 63] (by decide +kernel) (by decide +kernel)
set_option maxRecDepth 20000 in
theorem gX11_standing_X4_hasFit : GoodIn wsX11_standing (wsV RX11 111 RX4 yX4_hasFit wsX4_hasFit) := goodIn_app (goodIn_of _ (by decide +kernel)) ggX11_standing_X4_hasFit
set_option maxRecDepth 20000 in
theorem ggX11_standing_X7_lay : GoodIn wsX11_standing wsX7_lay := goodIn_r _ [19, 20, 21, 22, 23, 64, 65, 66, 67, 68, 69, 70, 71, 72, 73, 74, 75, 76, 77, 55, 56, 57, 58, 59, 60, 61, 62, 63] (by decide +kernel) (by decide +kernel)
set_option maxRecDepth 20000 in
theorem gX11_standing_X7_lay : GoodIn wsX11_standing (wsV RX11 167 RX7 yX7_lay wsX7_lay) := goodIn_app (goodIn_of _ (by decide +kernel)) ggX11_standing_X7_lay
set_option maxRecDepth 20000 in
theorem ggX11_standing_X7_waysByLots : GoodIn wsX11_standing wsX7_waysByLots := goodIn_r _ [27, 21, 22, 28, 29, 30, 31, 18, 32, 23, 33, 34, 35, 36, 37, 38, 39, 40, 41, 42, 43, 44, 45, 46, 20, 64, 65, 66, 67, 68, 69, 70, 71, 72, 73, 74, 75, 76, 77, 55, 56, 57, 58, 59, 60, 61, 62, 63] (by decide +kernel) (by decide +kernel)
set_option maxRecDepth 20000 in
theorem gX11_standing_X7_waysByLots : GoodIn wsX11_standing (wsV RX11 264 RX7 yX7_waysByLots wsX7_waysByLots) := goodIn_app (goodIn_of _ (by decide +kernel)) ggX11_standing_X7_waysByLots
theorem dX11_standing_0 : decode cX11_standing 0 = .ok (.aload_n 0, 1) := by decide +kernel
theorem dX11_standing_1 : decode cX11_standing 1 = .ok (.getfield 70, 3) := by decide +kernel
theorem dX11_standing_4 : decode cX11_standing 4 = .ok (.ifCond .ne 6, 3) := by decide +kernel
theorem dX11_standing_7 : decode cX11_standing 7 = .ok (.bipush (-3), 2) := by decide +kernel
theorem dX11_standing_9 : decode cX11_standing 9 = .ok (.ireturn, 1) := by decide +kernel
theorem dX11_standing_10 : decode cX11_standing 10 = .ok (.aload_n 0, 1) := by decide +kernel
theorem dX11_standing_11 : decode cX11_standing 11 = .ok (.getfield 10, 3) := by decide +kernel
theorem dX11_standing_14 : decode cX11_standing 14 = .ok (.invokevirtual 145, 3) := by decide +kernel
theorem dX11_standing_17 : decode cX11_standing 17 = .ok (.istore_n 1, 1) := by decide +kernel
theorem dX11_standing_18 : decode cX11_standing 18 = .ok (.iconst 0, 1) := by decide +kernel
theorem dX11_standing_19 : decode cX11_standing 19 = .ok (.istore_n 2, 1) := by decide +kernel
theorem dX11_standing_20 : decode cX11_standing 20 = .ok (.iconst 0, 1) := by decide +kernel
theorem dX11_standing_21 : decode cX11_standing 21 = .ok (.istore_n 3, 1) := by decide +kernel
theorem dX11_standing_22 : decode cX11_standing 22 = .ok (.iload_n 3, 1) := by decide +kernel
theorem dX11_standing_23 : decode cX11_standing 23 = .ok (.iload_n 1, 1) := by decide +kernel
theorem dX11_standing_24 : decode cX11_standing 24 = .ok (.if_icmp .ge 38, 3) := by decide +kernel
theorem dX11_standing_27 : decode cX11_standing 27 = .ok (.aload_n 0, 1) := by decide +kernel
theorem dX11_standing_28 : decode cX11_standing 28 = .ok (.getfield 10, 3) := by decide +kernel
theorem dX11_standing_31 : decode cX11_standing 31 = .ok (.iload_n 3, 1) := by decide +kernel
theorem dX11_standing_32 : decode cX11_standing 32 = .ok (.invokevirtual 111, 3) := by decide +kernel
theorem dX11_standing_35 : decode cX11_standing 35 = .ok (.ifCond .eq 21, 3) := by decide +kernel
theorem dX11_standing_38 : decode cX11_standing 38 = .ok (.aload_n 0, 1) := by decide +kernel
theorem dX11_standing_39 : decode cX11_standing 39 = .ok (.getfield 31, 3) := by decide +kernel
theorem dX11_standing_42 : decode cX11_standing 42 = .ok (.iload_n 3, 1) := by decide +kernel
theorem dX11_standing_43 : decode cX11_standing 43 = .ok (.invokevirtual 167, 3) := by decide +kernel
theorem dX11_standing_46 : decode cX11_standing 46 = .ok (.iload_n 2, 1) := by decide +kernel
theorem dX11_standing_47 : decode cX11_standing 47 = .ok (.aload_n 0, 1) := by decide +kernel
theorem dX11_standing_48 : decode cX11_standing 48 = .ok (.getfield 31, 3) := by decide +kernel
theorem dX11_standing_51 : decode cX11_standing 51 = .ok (.invokevirtual 264, 3) := by decide +kernel
theorem dX11_standing_54 : decode cX11_standing 54 = .ok (.iadd, 1) := by decide +kernel
theorem dX11_standing_55 : decode cX11_standing 55 = .ok (.istore_n 2, 1) := by decide +kernel
theorem dX11_standing_56 : decode cX11_standing 56 = .ok (.iinc 3 1, 3) := by decide +kernel
theorem dX11_standing_59 : decode cX11_standing 59 = .ok (.goto (-37), 3) := by decide +kernel
theorem dX11_standing_62 : decode cX11_standing 62 = .ok (.iload_n 2, 1) := by decide +kernel
theorem dX11_standing_63 : decode cX11_standing 63 = .ok (.ireturn, 1) := by decide +kernel
set_option maxRecDepth 20000 in
theorem ggX11_image_X4_takeFrom : GoodIn wsX11_image wsX4_takeFrom := goodIn_r _ [10, 11, 12, 13, 14, 15, 16, 17, 18, 19, 20, 21, 22, 23, 32, 33, 34, 35, 36, 37, 38, 39, 40] (by decide +kernel) (by decide +kernel)
set_option maxRecDepth 20000 in
theorem gX11_image_X4_takeFrom : GoodIn wsX11_image (wsV RX11 67 RX4 yX4_takeFrom wsX4_takeFrom) := goodIn_app (goodIn_of _ (by decide +kernel)) ggX11_image_X4_takeFrom
theorem dX11_image_0 : decode cX11_image 0 = .ok (.aload_n 0, 1) := by decide +kernel
theorem dX11_image_1 : decode cX11_image 1 = .ok (.getfield 70, 3) := by decide +kernel
theorem dX11_image_4 : decode cX11_image 4 = .ok (.ifCond .ne 6, 3) := by decide +kernel
theorem dX11_image_7 : decode cX11_image 7 = .ok (.bipush (-3), 2) := by decide +kernel
theorem dX11_image_9 : decode cX11_image 9 = .ok (.ireturn, 1) := by decide +kernel
theorem dX11_image_10 : decode cX11_image 10 = .ok (.aload_n 0, 1) := by decide +kernel
theorem dX11_image_11 : decode cX11_image 11 = .ok (.getfield 16, 3) := by decide +kernel
theorem dX11_image_14 : decode cX11_image 14 = .ok (.aload_n 0, 1) := by decide +kernel
theorem dX11_image_15 : decode cX11_image 15 = .ok (.getfield 10, 3) := by decide +kernel
theorem dX11_image_18 : decode cX11_image 18 = .ok (.invokevirtual 67, 3) := by decide +kernel
theorem dX11_image_21 : decode cX11_image 21 = .ok (.aload_n 0, 1) := by decide +kernel
theorem dX11_image_22 : decode cX11_image 22 = .ok (.iconst 1, 1) := by decide +kernel
theorem dX11_image_23 : decode cX11_image 23 = .ok (.putfield 267, 3) := by decide +kernel
theorem dX11_image_26 : decode cX11_image 26 = .ok (.aload_n 0, 1) := by decide +kernel
theorem dX11_image_27 : decode cX11_image 27 = .ok (.getfield 16, 3) := by decide +kernel
theorem dX11_image_30 : decode cX11_image 30 = .ok (.getfield 261, 3) := by decide +kernel
theorem dX11_image_33 : decode cX11_image 33 = .ok (.ireturn, 1) := by decide +kernel
set_option maxRecDepth 20000 in
theorem ggX11_restore_X4_takeFrom : GoodIn wsX11_restore wsX4_takeFrom := goodIn_r _ [9, 10, 11, 12, 13, 14, 15, 16, 17, 18, 19, 20, 21, 22, 31, 32, 33, 34, 35, 36, 37, 38, 39] (by decide +kernel) (by decide +kernel)
set_option maxRecDepth 20000 in
theorem gX11_restore_X4_takeFrom : GoodIn wsX11_restore (wsV RX11 67 RX4 yX4_takeFrom wsX4_takeFrom) := goodIn_app (goodIn_of _ (by decide +kernel)) ggX11_restore_X4_takeFrom
theorem dX11_restore_0 : decode cX11_restore 0 = .ok (.aload_n 0, 1) := by decide +kernel
theorem dX11_restore_1 : decode cX11_restore 1 = .ok (.getfield 267, 3) := by decide +kernel
theorem dX11_restore_4 : decode cX11_restore 4 = .ok (.ifCond .ne 6, 3) := by decide +kernel
theorem dX11_restore_7 : decode cX11_restore 7 = .ok (.bipush (-3), 2) := by decide +kernel
theorem dX11_restore_9 : decode cX11_restore 9 = .ok (.ireturn, 1) := by decide +kernel
theorem dX11_restore_10 : decode cX11_restore 10 = .ok (.aload_n 0, 1) := by decide +kernel
theorem dX11_restore_11 : decode cX11_restore 11 = .ok (.getfield 10, 3) := by decide +kernel
theorem dX11_restore_14 : decode cX11_restore 14 = .ok (.aload_n 0, 1) := by decide +kernel
theorem dX11_restore_15 : decode cX11_restore 15 = .ok (.getfield 16, 3) := by decide +kernel
theorem dX11_restore_18 : decode cX11_restore 18 = .ok (.invokevirtual 67, 3) := by decide +kernel
theorem dX11_restore_21 : decode cX11_restore 21 = .ok (.aload_n 0, 1) := by decide +kernel
theorem dX11_restore_22 : decode cX11_restore 22 = .ok (.getfield 10, 3) := by decide +kernel
theorem dX11_restore_25 : decode cX11_restore 25 = .ok (.getfield 261, 3) := by decide +kernel
theorem dX11_restore_28 : decode cX11_restore 28 = .ok (.ireturn, 1) := by decide +kernel
set_option maxRecDepth 20000 in
theorem ggX11_count_X4_toldThoughts : GoodIn wsX11_count wsX4_toldThoughts := goodIn_r _ [8, 9, 10, 30, 31, 32, 33, 34, 35, 36, 37, 38] (by decide +kernel) (by decide +kernel)
set_option maxRecDepth 20000 in
theorem gX11_count_X4_toldThoughts : GoodIn wsX11_count (wsV RX11 273 RX4 yX4_toldThoughts wsX4_toldThoughts) := goodIn_app (goodIn_of _ (by decide +kernel)) ggX11_count_X4_toldThoughts
set_option maxRecDepth 20000 in
theorem ggX11_count_X4_allWorth : GoodIn wsX11_count wsX4_allWorth := goodIn_r _ [14, 15, 16, 30, 31, 32, 33, 34, 35, 36, 37, 38] (by decide +kernel) (by decide +kernel)
set_option maxRecDepth 20000 in
theorem gX11_count_X4_allWorth : GoodIn wsX11_count (wsV RX11 276 RX4 yX4_allWorth wsX4_allWorth) := goodIn_app (goodIn_of _ (by decide +kernel)) ggX11_count_X4_allWorth
set_option maxRecDepth 20000 in
theorem ggX11_count_X4_allCosts : GoodIn wsX11_count wsX4_allCosts := goodIn_r _ [20, 9, 15, 21, 30, 31, 32, 33, 34, 35, 36, 37, 38] (by decide +kernel) (by decide +kernel)
set_option maxRecDepth 20000 in
theorem gX11_count_X4_allCosts : GoodIn wsX11_count (wsV RX11 279 RX4 yX4_allCosts wsX4_allCosts) := goodIn_app (goodIn_of _ (by decide +kernel)) ggX11_count_X4_allCosts
theorem dX11_count_0 : decode cX11_count 0 = .ok (.iload_n 1, 1) := by decide +kernel
theorem dX11_count_1 : decode cX11_count 1 = .ok (.tableswitch 75 0 4 #[35, 43, 51, 59, 67], 35) := by decide +kernel
theorem dX11_count_36 : decode cX11_count 36 = .ok (.aload_n 0, 1) := by decide +kernel
theorem dX11_count_37 : decode cX11_count 37 = .ok (.getfield 10, 3) := by decide +kernel
theorem dX11_count_40 : decode cX11_count 40 = .ok (.getfield 261, 3) := by decide +kernel
theorem dX11_count_43 : decode cX11_count 43 = .ok (.ireturn, 1) := by decide +kernel
theorem dX11_count_44 : decode cX11_count 44 = .ok (.aload_n 0, 1) := by decide +kernel
theorem dX11_count_45 : decode cX11_count 45 = .ok (.getfield 10, 3) := by decide +kernel
theorem dX11_count_48 : decode cX11_count 48 = .ok (.getfield 270, 3) := by decide +kernel
theorem dX11_count_51 : decode cX11_count 51 = .ok (.ireturn, 1) := by decide +kernel
theorem dX11_count_52 : decode cX11_count 52 = .ok (.aload_n 0, 1) := by decide +kernel
theorem dX11_count_53 : decode cX11_count 53 = .ok (.getfield 10, 3) := by decide +kernel
theorem dX11_count_56 : decode cX11_count 56 = .ok (.invokevirtual 273, 3) := by decide +kernel
theorem dX11_count_59 : decode cX11_count 59 = .ok (.ireturn, 1) := by decide +kernel
theorem dX11_count_60 : decode cX11_count 60 = .ok (.aload_n 0, 1) := by decide +kernel
theorem dX11_count_61 : decode cX11_count 61 = .ok (.getfield 10, 3) := by decide +kernel
theorem dX11_count_64 : decode cX11_count 64 = .ok (.invokevirtual 276, 3) := by decide +kernel
theorem dX11_count_67 : decode cX11_count 67 = .ok (.ireturn, 1) := by decide +kernel
theorem dX11_count_68 : decode cX11_count 68 = .ok (.aload_n 0, 1) := by decide +kernel
theorem dX11_count_69 : decode cX11_count 69 = .ok (.getfield 10, 3) := by decide +kernel
theorem dX11_count_72 : decode cX11_count 72 = .ok (.invokevirtual 279, 3) := by decide +kernel
theorem dX11_count_75 : decode cX11_count 75 = .ok (.ireturn, 1) := by decide +kernel
theorem dX11_count_76 : decode cX11_count 76 = .ok (.iconst (-1), 1) := by decide +kernel
theorem dX11_count_77 : decode cX11_count 77 = .ok (.ireturn, 1) := by decide +kernel
set_option maxRecDepth 20000 in
theorem ggX11_keep_X11_isShelf : GoodIn wsX11_keep wsX11_isShelf := goodIn_r _ [8] (by decide +kernel) (by decide +kernel)
set_option maxRecDepth 20000 in
theorem gX11_keep_X11_isShelf : GoodIn wsX11_keep (va_wsS RX11 49 yX11_isShelf wsX11_isShelf) := goodIn_app (goodIn_of _ (by decide +kernel)) ggX11_keep_X11_isShelf
set_option maxRecDepth 20000 in
theorem ggX11_keep_X11_isBit : GoodIn wsX11_keep wsX11_isBit := goodIn_r _ [11] (by decide +kernel) (by decide +kernel)
set_option maxRecDepth 20000 in
theorem gX11_keep_X11_isBit : GoodIn wsX11_keep (va_wsS RX11 101 yX11_isBit wsX11_isBit) := goodIn_app (goodIn_of _ (by decide +kernel)) ggX11_keep_X11_isBit
set_option maxRecDepth 20000 in
theorem ggX11_keep_X8_clear : GoodIn wsX11_keep wsX8_clear := goodIn_r _ [16, 17, 18, 19, 107, 108, 109, 110] (by decide +kernel) (by decide +kernel)
set_option maxRecDepth 20000 in
theorem gX11_keep_X8_clear : GoodIn wsX11_keep (wsV RX11 282 RX8 yX8_clear wsX8_clear) := goodIn_app (goodIn_of _ (by decide +kernel)) ggX11_keep_X8_clear
set_option maxRecDepth 20000 in
theorem ggX11_keep_X4_hasFit : GoodIn wsX11_keep wsX4_hasFit := goodIn_r _ [24, 25, 26, 98, 99, 100, 101, 102, 103, 104, 105, 106] (by decide +kernel) (by decide +kernel)
set_option maxRecDepth 20000 in
theorem gX11_keep_X4_hasFit : GoodIn wsX11_keep (wsV RX11 111 RX4 yX4_hasFit wsX4_hasFit) := goodIn_app (goodIn_of _ (by decide +kernel)) ggX11_keep_X4_hasFit
set_option maxRecDepth 20000 in
theorem ggX11_keep_X11_fitOfKind : GoodIn wsX11_keep wsX11_fitOfKind := goodIn_r _ [29, 30, 31, 32, 33, 34, 35, 36, 37, 38, 39, 40, 41, 42, 43, 44, 45, 46, 47, 48, 49, 50, 51, 52, 53, 54, 55, 56, 57, 58, 59, 60, 61, 62, 63, 64, 65, 66, 67, 68, 69, 70, 71, 72, 73, 74, 75, 76, 77, 78, 79, 80, 81, 82, 83, 84, 111, 112, 113, 114, 115, 116, 117, 118, 119, 120, 121, 122, 123, 124, 125, 126, 127, 128, 129, 130, 131, 132, 133, 134] (by decide +kernel) (by decide +kernel)
set_option maxRecDepth 20000 in
theorem gX11_keep_X11_fitOfKind : GoodIn wsX11_keep (va_wsS RX11 285 yX11_fitOfKind wsX11_fitOfKind) := goodIn_app (goodIn_of _ (by decide +kernel)) ggX11_keep_X11_fitOfKind
set_option maxRecDepth 20000 in
theorem ggX11_keep_X8_holdFit : GoodIn wsX11_keep wsX8_holdFit := goodIn_r _ [88, 19, 89, 13, 14, 15, 16, 17, 18, 107, 108, 109, 110] (by decide +kernel) (by decide +kernel)
set_option maxRecDepth 20000 in
theorem gX11_keep_X8_holdFit : GoodIn wsX11_keep (wsV RX11 289 RX8 yX8_holdFit wsX8_holdFit) := goodIn_app (goodIn_of _ (by decide +kernel)) ggX11_keep_X8_holdFit
theorem dX11_keep_0 : decode cX11_keep 0 = .ok (.iload_n 1, 1) := by decide +kernel
theorem dX11_keep_1 : decode cX11_keep 1 = .ok (.invokestatic 49, 3) := by decide +kernel
theorem dX11_keep_4 : decode cX11_keep 4 = .ok (.ifCond .eq 10, 3) := by decide +kernel
theorem dX11_keep_7 : decode cX11_keep 7 = .ok (.iload_n 2, 1) := by decide +kernel
theorem dX11_keep_8 : decode cX11_keep 8 = .ok (.invokestatic 101, 3) := by decide +kernel
theorem dX11_keep_11 : decode cX11_keep 11 = .ok (.ifCond .ne 5, 3) := by decide +kernel
theorem dX11_keep_14 : decode cX11_keep 14 = .ok (.iconst (-1), 1) := by decide +kernel
theorem dX11_keep_15 : decode cX11_keep 15 = .ok (.ireturn, 1) := by decide +kernel
theorem dX11_keep_16 : decode cX11_keep 16 = .ok (.iload_n 2, 1) := by decide +kernel
theorem dX11_keep_17 : decode cX11_keep 17 = .ok (.ifCond .ne 14, 3) := by decide +kernel
theorem dX11_keep_20 : decode cX11_keep 20 = .ok (.aload_n 0, 1) := by decide +kernel
theorem dX11_keep_21 : decode cX11_keep 21 = .ok (.getfield 44, 3) := by decide +kernel
theorem dX11_keep_24 : decode cX11_keep 24 = .ok (.iload_n 1, 1) := by decide +kernel
theorem dX11_keep_25 : decode cX11_keep 25 = .ok (.aaload, 1) := by decide +kernel
theorem dX11_keep_26 : decode cX11_keep 26 = .ok (.invokevirtual 282, 3) := by decide +kernel
theorem dX11_keep_29 : decode cX11_keep 29 = .ok (.iconst 0, 1) := by decide +kernel
theorem dX11_keep_30 : decode cX11_keep 30 = .ok (.ireturn, 1) := by decide +kernel
theorem dX11_keep_31 : decode cX11_keep 31 = .ok (.aload_n 0, 1) := by decide +kernel
theorem dX11_keep_32 : decode cX11_keep 32 = .ok (.getfield 70, 3) := by decide +kernel
theorem dX11_keep_35 : decode cX11_keep 35 = .ok (.ifCond .ne 6, 3) := by decide +kernel
theorem dX11_keep_38 : decode cX11_keep 38 = .ok (.bipush (-3), 2) := by decide +kernel
theorem dX11_keep_40 : decode cX11_keep 40 = .ok (.ireturn, 1) := by decide +kernel
theorem dX11_keep_41 : decode cX11_keep 41 = .ok (.iload_n 3, 1) := by decide +kernel
theorem dX11_keep_42 : decode cX11_keep 42 = .ok (.ifCond .lt 20, 3) := by decide +kernel
theorem dX11_keep_45 : decode cX11_keep 45 = .ok (.iload_n 3, 1) := by decide +kernel
theorem dX11_keep_46 : decode cX11_keep 46 = .ok (.iconst 5, 1) := by decide +kernel
theorem dX11_keep_47 : decode cX11_keep 47 = .ok (.if_icmp .gt 15, 3) := by decide +kernel
theorem dX11_keep_50 : decode cX11_keep 50 = .ok (.aload_n 0, 1) := by decide +kernel
theorem dX11_keep_51 : decode cX11_keep 51 = .ok (.getfield 10, 3) := by decide +kernel
theorem dX11_keep_54 : decode cX11_keep 54 = .ok (.iload 4, 2) := by decide +kernel
theorem dX11_keep_56 : decode cX11_keep 56 = .ok (.invokevirtual 111, 3) := by decide +kernel
theorem dX11_keep_59 : decode cX11_keep 59 = .ok (.ifCond .ne 5, 3) := by decide +kernel
theorem dX11_keep_62 : decode cX11_keep 62 = .ok (.iconst (-1), 1) := by decide +kernel
theorem dX11_keep_63 : decode cX11_keep 63 = .ok (.ireturn, 1) := by decide +kernel
theorem dX11_keep_64 : decode cX11_keep 64 = .ok (.aload_n 0, 1) := by decide +kernel
theorem dX11_keep_65 : decode cX11_keep 65 = .ok (.getfield 44, 3) := by decide +kernel
theorem dX11_keep_68 : decode cX11_keep 68 = .ok (.iload_n 1, 1) := by decide +kernel
theorem dX11_keep_69 : decode cX11_keep 69 = .ok (.aaload, 1) := by decide +kernel
theorem dX11_keep_70 : decode cX11_keep 70 = .ok (.iload_n 3, 1) := by decide +kernel
theorem dX11_keep_71 : decode cX11_keep 71 = .ok (.iload 4, 2) := by decide +kernel
theorem dX11_keep_73 : decode cX11_keep 73 = .ok (.aload_n 0, 1) := by decide +kernel
theorem dX11_keep_74 : decode cX11_keep 74 = .ok (.getfield 10, 3) := by decide +kernel
theorem dX11_keep_77 : decode cX11_keep 77 = .ok (.getfield 261, 3) := by decide +kernel
theorem dX11_keep_80 : decode cX11_keep 80 = .ok (.invokestatic 285, 3) := by decide +kernel
theorem dX11_keep_83 : decode cX11_keep 83 = .ok (.invokevirtual 289, 3) := by decide +kernel
theorem dX11_keep_86 : decode cX11_keep 86 = .ok (.iconst 0, 1) := by decide +kernel
theorem dX11_keep_87 : decode cX11_keep 87 = .ok (.ireturn, 1) := by decide +kernel
set_option maxRecDepth 20000 in
theorem ggX11_row_X11_isShelf : GoodIn wsX11_row wsX11_isShelf := goodIn_r _ [5] (by decide +kernel) (by decide +kernel)
set_option maxRecDepth 20000 in
theorem gX11_row_X11_isShelf : GoodIn wsX11_row (va_wsS RX11 49 yX11_isShelf wsX11_isShelf) := goodIn_app (goodIn_of _ (by decide +kernel)) ggX11_row_X11_isShelf
set_option maxRecDepth 20000 in
theorem ggX11_row_X8_holdRow : GoodIn wsX11_row wsX8_holdRow := goodIn_r _ [10, 11, 12, 13, 14, 15, 16, 9, 17, 18, 19, 20, 21, 22, 31, 32, 33, 34] (by decide +kernel) (by decide +kernel)
set_option maxRecDepth 20000 in
theorem gX11_row_X8_holdRow : GoodIn wsX11_row (wsV RX11 293 RX8 yX8_holdRow wsX8_holdRow) := goodIn_app (goodIn_of _ (by decide +kernel)) ggX11_row_X8_holdRow
theorem dX11_row_0 : decode cX11_row 0 = .ok (.iload_n 1, 1) := by decide +kernel
theorem dX11_row_1 : decode cX11_row 1 = .ok (.invokestatic 49, 3) := by decide +kernel
theorem dX11_row_4 : decode cX11_row 4 = .ok (.ifCond .eq 18, 3) := by decide +kernel
theorem dX11_row_7 : decode cX11_row 7 = .ok (.iload_n 2, 1) := by decide +kernel
theorem dX11_row_8 : decode cX11_row 8 = .ok (.ifCond .lt 14, 3) := by decide +kernel
theorem dX11_row_11 : decode cX11_row 11 = .ok (.iload_n 2, 1) := by decide +kernel
theorem dX11_row_12 : decode cX11_row 12 = .ok (.iconst 2, 1) := by decide +kernel
theorem dX11_row_13 : decode cX11_row 13 = .ok (.if_icmp .gt 9, 3) := by decide +kernel
theorem dX11_row_16 : decode cX11_row 16 = .ok (.iload_n 3, 1) := by decide +kernel
theorem dX11_row_17 : decode cX11_row 17 = .ok (.bipush 120, 2) := by decide +kernel
theorem dX11_row_19 : decode cX11_row 19 = .ok (.if_icmp .le 5, 3) := by decide +kernel
theorem dX11_row_22 : decode cX11_row 22 = .ok (.iconst (-1), 1) := by decide +kernel
theorem dX11_row_23 : decode cX11_row 23 = .ok (.ireturn, 1) := by decide +kernel
theorem dX11_row_24 : decode cX11_row 24 = .ok (.iload_n 3, 1) := by decide +kernel
theorem dX11_row_25 : decode cX11_row 25 = .ok (.ifCond .ge 6, 3) := by decide +kernel
theorem dX11_row_28 : decode cX11_row 28 = .ok (.bipush (-14), 2) := by decide +kernel
theorem dX11_row_30 : decode cX11_row 30 = .ok (.ireturn, 1) := by decide +kernel
theorem dX11_row_31 : decode cX11_row 31 = .ok (.aload_n 0, 1) := by decide +kernel
theorem dX11_row_32 : decode cX11_row 32 = .ok (.getfield 44, 3) := by decide +kernel
theorem dX11_row_35 : decode cX11_row 35 = .ok (.iload_n 1, 1) := by decide +kernel
theorem dX11_row_36 : decode cX11_row 36 = .ok (.aaload, 1) := by decide +kernel
theorem dX11_row_37 : decode cX11_row 37 = .ok (.iload_n 2, 1) := by decide +kernel
theorem dX11_row_38 : decode cX11_row 38 = .ok (.iload_n 3, 1) := by decide +kernel
theorem dX11_row_39 : decode cX11_row 39 = .ok (.invokevirtual 293, 3) := by decide +kernel
theorem dX11_row_42 : decode cX11_row 42 = .ok (.iconst 0, 1) := by decide +kernel
theorem dX11_row_43 : decode cX11_row 43 = .ok (.ireturn, 1) := by decide +kernel
set_option maxRecDepth 20000 in
theorem ggX11_put_X11_isShelf : GoodIn wsX11_put wsX11_isShelf := goodIn_r _ [5] (by decide +kernel) (by decide +kernel)
set_option maxRecDepth 20000 in
theorem gX11_put_X11_isShelf : GoodIn wsX11_put (va_wsS RX11 49 yX11_isShelf wsX11_isShelf) := goodIn_app (goodIn_of _ (by decide +kernel)) ggX11_put_X11_isShelf
set_option maxRecDepth 20000 in
theorem ggX11_put_X8_isBare : GoodIn wsX11_put wsX8_isBare := goodIn_r _ [10, 11, 12, 35, 36, 37, 38] (by decide +kernel) (by decide +kernel)
set_option maxRecDepth 20000 in
theorem gX11_put_X8_isBare : GoodIn wsX11_put (wsV RX11 53 RX8 yX8_isBare wsX8_isBare) := goodIn_app (goodIn_of _ (by decide +kernel)) ggX11_put_X8_isBare
set_option maxRecDepth 20000 in
theorem ggX11_put_X8_holdsRow : GoodIn wsX11_put wsX8_holdsRow := goodIn_r _ [16, 12, 35, 36, 37, 38] (by decide +kernel) (by decide +kernel)
set_option maxRecDepth 20000 in
theorem gX11_put_X8_holdsRow : GoodIn wsX11_put (wsV RX11 297 RX8 yX8_holdsRow wsX8_holdsRow) := goodIn_app (goodIn_of _ (by decide +kernel)) ggX11_put_X8_holdsRow
set_option maxRecDepth 20000 in
theorem ggX11_put_X8_hasPlaces : GoodIn wsX11_put wsX8_hasPlaces := goodIn_r _ [20, 21, 35, 36, 37, 38] (by decide +kernel) (by decide +kernel)
set_option maxRecDepth 20000 in
theorem gX11_put_X8_hasPlaces : GoodIn wsX11_put (wsV RX11 300 RX8 yX8_hasPlaces wsX8_hasPlaces) := goodIn_app (goodIn_of _ (by decide +kernel)) ggX11_put_X8_hasPlaces
set_option maxRecDepth 20000 in
theorem ggX11_put_X8_setValue : GoodIn wsX11_put wsX8_setValue := goodIn_r _ [25, 12, 26, 35, 36, 37, 38] (by decide +kernel) (by decide +kernel)
set_option maxRecDepth 20000 in
theorem gX11_put_X8_setValue : GoodIn wsX11_put (wsV RX11 303 RX8 yX8_setValue wsX8_setValue) := goodIn_app (goodIn_of _ (by decide +kernel)) ggX11_put_X8_setValue
theorem dX11_put_0 : decode cX11_put 0 = .ok (.iload_n 1, 1) := by decide +kernel
theorem dX11_put_1 : decode cX11_put 1 = .ok (.invokestatic 49, 3) := by decide +kernel
theorem dX11_put_4 : decode cX11_put 4 = .ok (.ifCond .ne 5, 3) := by decide +kernel
theorem dX11_put_7 : decode cX11_put 7 = .ok (.iconst (-1), 1) := by decide +kernel
theorem dX11_put_8 : decode cX11_put 8 = .ok (.ireturn, 1) := by decide +kernel
theorem dX11_put_9 : decode cX11_put 9 = .ok (.aload_n 0, 1) := by decide +kernel
theorem dX11_put_10 : decode cX11_put 10 = .ok (.getfield 44, 3) := by decide +kernel
theorem dX11_put_13 : decode cX11_put 13 = .ok (.iload_n 1, 1) := by decide +kernel
theorem dX11_put_14 : decode cX11_put 14 = .ok (.aaload, 1) := by decide +kernel
theorem dX11_put_15 : decode cX11_put 15 = .ok (.astore 4, 2) := by decide +kernel
theorem dX11_put_17 : decode cX11_put 17 = .ok (.aload 4, 2) := by decide +kernel
theorem dX11_put_19 : decode cX11_put 19 = .ok (.invokevirtual 53, 3) := by decide +kernel
theorem dX11_put_22 : decode cX11_put 22 = .ok (.ifCond .eq 6, 3) := by decide +kernel
theorem dX11_put_25 : decode cX11_put 25 = .ok (.bipush (-11), 2) := by decide +kernel
theorem dX11_put_27 : decode cX11_put 27 = .ok (.ireturn, 1) := by decide +kernel
theorem dX11_put_28 : decode cX11_put 28 = .ok (.aload 4, 2) := by decide +kernel
theorem dX11_put_30 : decode cX11_put 30 = .ok (.invokevirtual 297, 3) := by decide +kernel
theorem dX11_put_33 : decode cX11_put 33 = .ok (.ifCond .ne 6, 3) := by decide +kernel
theorem dX11_put_36 : decode cX11_put 36 = .ok (.bipush (-12), 2) := by decide +kernel
theorem dX11_put_38 : decode cX11_put 38 = .ok (.ireturn, 1) := by decide +kernel
theorem dX11_put_39 : decode cX11_put 39 = .ok (.aload 4, 2) := by decide +kernel
theorem dX11_put_41 : decode cX11_put 41 = .ok (.iload_n 2, 1) := by decide +kernel
theorem dX11_put_42 : decode cX11_put 42 = .ok (.iconst 1, 1) := by decide +kernel
theorem dX11_put_43 : decode cX11_put 43 = .ok (.invokevirtual 300, 3) := by decide +kernel
theorem dX11_put_46 : decode cX11_put 46 = .ok (.ifCond .ne 6, 3) := by decide +kernel
theorem dX11_put_49 : decode cX11_put 49 = .ok (.bipush (-13), 2) := by decide +kernel
theorem dX11_put_51 : decode cX11_put 51 = .ok (.ireturn, 1) := by decide +kernel
theorem dX11_put_52 : decode cX11_put 52 = .ok (.aload 4, 2) := by decide +kernel
theorem dX11_put_54 : decode cX11_put 54 = .ok (.iload_n 2, 1) := by decide +kernel
theorem dX11_put_55 : decode cX11_put 55 = .ok (.iload_n 3, 1) := by decide +kernel
theorem dX11_put_56 : decode cX11_put 56 = .ok (.invokevirtual 303, 3) := by decide +kernel
theorem dX11_put_59 : decode cX11_put 59 = .ok (.iconst 0, 1) := by decide +kernel
theorem dX11_put_60 : decode cX11_put 60 = .ok (.ireturn, 1) := by decide +kernel
set_option maxRecDepth 20000 in
theorem ggX11_element_X11_isShelf : GoodIn wsX11_element wsX11_isShelf := goodIn_r _ [10] (by decide +kernel) (by decide +kernel)
set_option maxRecDepth 20000 in
theorem gX11_element_X11_isShelf : GoodIn wsX11_element (va_wsS RX11 49 yX11_isShelf wsX11_isShelf) := goodIn_app (goodIn_of _ (by decide +kernel)) ggX11_element_X11_isShelf
set_option maxRecDepth 20000 in
theorem ggX11_element_X8_holdsRow : GoodIn wsX11_element wsX8_holdsRow := goodIn_r _ [15, 16, 30, 31, 32, 33] (by decide +kernel) (by decide +kernel)
set_option maxRecDepth 20000 in
theorem gX11_element_X8_holdsRow : GoodIn wsX11_element (wsV RX11 297 RX8 yX8_holdsRow wsX8_holdsRow) := goodIn_app (goodIn_of _ (by decide +kernel)) ggX11_element_X8_holdsRow
set_option maxRecDepth 20000 in
theorem ggX11_element_X8_hasPlaces : GoodIn wsX11_element wsX8_hasPlaces := goodIn_r _ [20, 21, 30, 31, 32, 33] (by decide +kernel) (by decide +kernel)
set_option maxRecDepth 20000 in
theorem gX11_element_X8_hasPlaces : GoodIn wsX11_element (wsV RX11 300 RX8 yX8_hasPlaces wsX8_hasPlaces) := goodIn_app (goodIn_of _ (by decide +kernel)) ggX11_element_X8_hasPlaces
theorem dX11_element_0 : decode cX11_element 0 = .ok (.iload_n 1, 1) := by decide +kernel
theorem dX11_element_1 : decode cX11_element 1 = .ok (.invokestatic 49, 3) := by decide +kernel
theorem dX11_element_4 : decode cX11_element 4 = .ok (.ifCond .ne 14, 3) := by decide +kernel
theorem dX11_element_7 : decode cX11_element 7 = .ok (.new 306, 3) := by decide +kernel
theorem dX11_element_10 : decode cX11_element 10 = .ok (.dup, 1) := by decide +kernel
theorem dX11_element_11 : decode cX11_element 11 = .ok (.ldc_w 308, 3) := by decide +kernel
theorem dX11_element_14 : decode cX11_element 14 = .ok (.invokespecial 310, 3) := by decide +kernel
theorem dX11_element_17 : decode cX11_element 17 = .ok (.athrow, 1) := by decide +kernel
theorem dX11_element_18 : decode cX11_element 18 = .ok (.aload_n 0, 1) := by decide +kernel
theorem dX11_element_19 : decode cX11_element 19 = .ok (.getfield 44, 3) := by decide +kernel
theorem dX11_element_22 : decode cX11_element 22 = .ok (.iload_n 1, 1) := by decide +kernel
theorem dX11_element_23 : decode cX11_element 23 = .ok (.aaload, 1) := by decide +kernel
theorem dX11_element_24 : decode cX11_element 24 = .ok (.astore_n 3, 1) := by decide +kernel
theorem dX11_element_25 : decode cX11_element 25 = .ok (.aload_n 3, 1) := by decide +kernel
theorem dX11_element_26 : decode cX11_element 26 = .ok (.invokevirtual 297, 3) := by decide +kernel
theorem dX11_element_29 : decode cX11_element 29 = .ok (.ifCond .eq 12, 3) := by decide +kernel
theorem dX11_element_32 : decode cX11_element 32 = .ok (.aload_n 3, 1) := by decide +kernel
theorem dX11_element_33 : decode cX11_element 33 = .ok (.iload_n 2, 1) := by decide +kernel
theorem dX11_element_34 : decode cX11_element 34 = .ok (.iconst 1, 1) := by decide +kernel
theorem dX11_element_35 : decode cX11_element 35 = .ok (.invokevirtual 300, 3) := by decide +kernel
theorem dX11_element_38 : decode cX11_element 38 = .ok (.ifCond .ne 14, 3) := by decide +kernel
theorem dX11_element_41 : decode cX11_element 41 = .ok (.new 313, 3) := by decide +kernel
theorem dX11_element_44 : decode cX11_element 44 = .ok (.dup, 1) := by decide +kernel
theorem dX11_element_45 : decode cX11_element 45 = .ok (.ldc_w 315, 3) := by decide +kernel
theorem dX11_element_48 : decode cX11_element 48 = .ok (.invokespecial 317, 3) := by decide +kernel
theorem dX11_element_51 : decode cX11_element 51 = .ok (.athrow, 1) := by decide +kernel
theorem dX11_element_52 : decode cX11_element 52 = .ok (.aload_n 3, 1) := by decide +kernel
theorem dX11_element_53 : decode cX11_element 53 = .ok (.getfield 318, 3) := by decide +kernel
theorem dX11_element_56 : decode cX11_element 56 = .ok (.iload_n 2, 1) := by decide +kernel
theorem dX11_element_57 : decode cX11_element 57 = .ok (.iaload, 1) := by decide +kernel
theorem dX11_element_58 : decode cX11_element 58 = .ok (.i2l, 1) := by decide +kernel
theorem dX11_element_59 : decode cX11_element 59 = .ok (.lreturn, 1) := by decide +kernel
set_option maxRecDepth 20000 in
theorem ggX11_copy_X11_isShelf : GoodIn wsX11_copy wsX11_isShelf := goodIn_r _ [11] (by decide +kernel) (by decide +kernel)
set_option maxRecDepth 20000 in
theorem gX11_copy_X11_isShelf : GoodIn wsX11_copy (va_wsS RX11 49 yX11_isShelf wsX11_isShelf) := goodIn_app (goodIn_of _ (by decide +kernel)) ggX11_copy_X11_isShelf
set_option maxRecDepth 20000 in
theorem ggX11_copy_X8_isBare : GoodIn wsX11_copy wsX8_isBare := goodIn_r _ [16, 17, 18, 41, 42, 43, 44] (by decide +kernel) (by decide +kernel)
set_option maxRecDepth 20000 in
theorem gX11_copy_X8_isBare : GoodIn wsX11_copy (wsV RX11 53 RX8 yX8_isBare wsX8_isBare) := goodIn_app (goodIn_of _ (by decide +kernel)) ggX11_copy_X8_isBare
set_option maxRecDepth 20000 in
theorem ggX11_copy_X8_holdsRow : GoodIn wsX11_copy wsX8_holdsRow := goodIn_r _ [22, 18, 41, 42, 43, 44] (by decide +kernel) (by decide +kernel)
set_option maxRecDepth 20000 in
theorem gX11_copy_X8_holdsRow : GoodIn wsX11_copy (wsV RX11 297 RX8 yX8_holdsRow wsX8_holdsRow) := goodIn_app (goodIn_of _ (by decide +kernel)) ggX11_copy_X8_holdsRow
set_option maxRecDepth 20000 in
theorem ggX11_copy_X8_holdsRowOf : GoodIn wsX11_copy wsX8_holdsRowOf := goodIn_r _ [26, 18, 27, 20, 21, 15, 22, 41, 42, 43, 44] (by decide +kernel) (by decide +kernel)
set_option maxRecDepth 20000 in
theorem gX11_copy_X8_holdsRowOf : GoodIn wsX11_copy (wsV RX11 57 RX8 yX8_holdsRowOf wsX8_holdsRowOf) := goodIn_app (goodIn_of _ (by decide +kernel)) ggX11_copy_X8_holdsRowOf
set_option maxRecDepth 20000 in
theorem ggX11_copy_X8_hasPlaces : GoodIn wsX11_copy wsX8_hasPlaces := goodIn_r _ [31, 32, 41, 42, 43, 44] (by decide +kernel) (by decide +kernel)
set_option maxRecDepth 20000 in
theorem gX11_copy_X8_hasPlaces : GoodIn wsX11_copy (wsV RX11 300 RX8 yX8_hasPlaces wsX8_hasPlaces) := goodIn_app (goodIn_of _ (by decide +kernel)) ggX11_copy_X8_hasPlaces
theorem dX11_copy_0 : decode cX11_copy 0 = .ok (.iload_n 1, 1) := by decide +kernel
theorem dX11_copy_1 : decode cX11_copy 1 = .ok (.invokestatic 49, 3) := by decide +kernel
theorem dX11_copy_4 : decode cX11_copy 4 = .ok (.ifCond .eq 10, 3) := by decide +kernel
theorem dX11_copy_7 : decode cX11_copy 7 = .ok (.iload_n 3, 1) := by decide +kernel
theorem dX11_copy_8 : decode cX11_copy 8 = .ok (.invokestatic 49, 3) := by decide +kernel
theorem dX11_copy_11 : decode cX11_copy 11 = .ok (.ifCond .ne 5, 3) := by decide +kernel
theorem dX11_copy_14 : decode cX11_copy 14 = .ok (.iconst (-1), 1) := by decide +kernel
theorem dX11_copy_15 : decode cX11_copy 15 = .ok (.ireturn, 1) := by decide +kernel
theorem dX11_copy_16 : decode cX11_copy 16 = .ok (.aload_n 0, 1) := by decide +kernel
theorem dX11_copy_17 : decode cX11_copy 17 = .ok (.getfield 44, 3) := by decide +kernel
theorem dX11_copy_20 : decode cX11_copy 20 = .ok (.iload_n 1, 1) := by decide +kernel
theorem dX11_copy_21 : decode cX11_copy 21 = .ok (.aaload, 1) := by decide +kernel
theorem dX11_copy_22 : decode cX11_copy 22 = .ok (.astore 6, 2) := by decide +kernel
theorem dX11_copy_24 : decode cX11_copy 24 = .ok (.aload_n 0, 1) := by decide +kernel
theorem dX11_copy_25 : decode cX11_copy 25 = .ok (.getfield 44, 3) := by decide +kernel
theorem dX11_copy_28 : decode cX11_copy 28 = .ok (.iload_n 3, 1) := by decide +kernel
theorem dX11_copy_29 : decode cX11_copy 29 = .ok (.aaload, 1) := by decide +kernel
theorem dX11_copy_30 : decode cX11_copy 30 = .ok (.astore 7, 2) := by decide +kernel
theorem dX11_copy_32 : decode cX11_copy 32 = .ok (.aload 6, 2) := by decide +kernel
theorem dX11_copy_34 : decode cX11_copy 34 = .ok (.invokevirtual 53, 3) := by decide +kernel
theorem dX11_copy_37 : decode cX11_copy 37 = .ok (.ifCond .ne 11, 3) := by decide +kernel
theorem dX11_copy_40 : decode cX11_copy 40 = .ok (.aload 7, 2) := by decide +kernel
theorem dX11_copy_42 : decode cX11_copy 42 = .ok (.invokevirtual 53, 3) := by decide +kernel
theorem dX11_copy_45 : decode cX11_copy 45 = .ok (.ifCond .eq 6, 3) := by decide +kernel
theorem dX11_copy_48 : decode cX11_copy 48 = .ok (.bipush (-11), 2) := by decide +kernel
theorem dX11_copy_50 : decode cX11_copy 50 = .ok (.ireturn, 1) := by decide +kernel
theorem dX11_copy_51 : decode cX11_copy 51 = .ok (.aload 6, 2) := by decide +kernel
theorem dX11_copy_53 : decode cX11_copy 53 = .ok (.invokevirtual 297, 3) := by decide +kernel
theorem dX11_copy_56 : decode cX11_copy 56 = .ok (.ifCond .eq 16, 3) := by decide +kernel
theorem dX11_copy_59 : decode cX11_copy 59 = .ok (.aload 7, 2) := by decide +kernel
theorem dX11_copy_61 : decode cX11_copy 61 = .ok (.aload 6, 2) := by decide +kernel
theorem dX11_copy_63 : decode cX11_copy 63 = .ok (.getfield 321, 3) := by decide +kernel
theorem dX11_copy_66 : decode cX11_copy 66 = .ok (.invokevirtual 57, 3) := by decide +kernel
theorem dX11_copy_69 : decode cX11_copy 69 = .ok (.ifCond .ne 6, 3) := by decide +kernel
theorem dX11_copy_72 : decode cX11_copy 72 = .ok (.bipush (-12), 2) := by decide +kernel
theorem dX11_copy_74 : decode cX11_copy 74 = .ok (.ireturn, 1) := by decide +kernel
theorem dX11_copy_75 : decode cX11_copy 75 = .ok (.aload 6, 2) := by decide +kernel
theorem dX11_copy_77 : decode cX11_copy 77 = .ok (.iload_n 2, 1) := by decide +kernel
theorem dX11_copy_78 : decode cX11_copy 78 = .ok (.iload 5, 2) := by decide +kernel
theorem dX11_copy_80 : decode cX11_copy 80 = .ok (.invokevirtual 300, 3) := by decide +kernel
theorem dX11_copy_83 : decode cX11_copy 83 = .ok (.ifCond .eq 15, 3) := by decide +kernel
theorem dX11_copy_86 : decode cX11_copy 86 = .ok (.aload 7, 2) := by decide +kernel
theorem dX11_copy_88 : decode cX11_copy 88 = .ok (.iload 4, 2) := by decide +kernel
theorem dX11_copy_90 : decode cX11_copy 90 = .ok (.iload 5, 2) := by decide +kernel
theorem dX11_copy_92 : decode cX11_copy 92 = .ok (.invokevirtual 300, 3) := by decide +kernel
theorem dX11_copy_95 : decode cX11_copy 95 = .ok (.ifCond .ne 6, 3) := by decide +kernel
theorem dX11_copy_98 : decode cX11_copy 98 = .ok (.bipush (-13), 2) := by decide +kernel
theorem dX11_copy_100 : decode cX11_copy 100 = .ok (.ireturn, 1) := by decide +kernel
theorem dX11_copy_101 : decode cX11_copy 101 = .ok (.aload 6, 2) := by decide +kernel
theorem dX11_copy_103 : decode cX11_copy 103 = .ok (.getfield 318, 3) := by decide +kernel
theorem dX11_copy_106 : decode cX11_copy 106 = .ok (.iload_n 2, 1) := by decide +kernel
theorem dX11_copy_107 : decode cX11_copy 107 = .ok (.aload 7, 2) := by decide +kernel
theorem dX11_copy_109 : decode cX11_copy 109 = .ok (.getfield 318, 3) := by decide +kernel
theorem dX11_copy_112 : decode cX11_copy 112 = .ok (.iload 4, 2) := by decide +kernel
theorem dX11_copy_114 : decode cX11_copy 114 = .ok (.iload 5, 2) := by decide +kernel
theorem dX11_copy_116 : decode cX11_copy 116 = .ok (.invokestatic 324, 3) := by decide +kernel
theorem dX11_copy_119 : decode cX11_copy 119 = .ok (.iload 5, 2) := by decide +kernel
theorem dX11_copy_121 : decode cX11_copy 121 = .ok (.ireturn, 1) := by decide +kernel
set_option maxRecDepth 20000 in
theorem ggX11_breadth_X11_heldFitFault : GoodIn wsX11_breadth wsX11_heldFitFault := goodIn_r _ [7, 1, 2, 8, 9, 6, 10, 11, 12, 13, 14, 15, 16, 17, 61, 62, 63, 64, 65, 66, 67, 68, 69, 70, 71, 72] (by decide +kernel) (by decide +kernel)
set_option maxRecDepth 20000 in
theorem gX11_breadth_X11_heldFitFault : GoodIn wsX11_breadth (wsV RX11 330 RX11 yX11_heldFitFault wsX11_heldFitFault) := goodIn_app (goodIn_of _ (by decide +kernel)) ggX11_breadth_X11_heldFitFault
set_option maxRecDepth 20000 in
theorem ggX11_breadth_X0_broad : GoodIn wsX11_breadth wsX0_broad := goodIn_r _ [24, 25, 19, 26, 27, 28, 29, 30, 73, 74, 75, 76, 77, 78, 79, 80, 81, 82, 83, 84, 85, 86, 87, 88, 89, 90, 91, 92, 93, 94, 95, 96] (by decide +kernel) (by decide +kernel)
set_option maxRecDepth 20000 in
theorem gX11_breadth_X0_broad_u337X0 : GoodIn wsX11_breadth (va_wsO RX11 337 RX0 "FurrowFair$Fit" ⟨"FurrowFair$Fit", "broad", "()I"⟩ yX0_broad wsX0_broad) := goodIn_app (goodIn_of _ (by decide +kernel)) ggX11_breadth_X0_broad
set_option maxRecDepth 20000 in
theorem ggX11_breadth_X1_broad : GoodIn wsX11_breadth wsX1_broad := goodIn_r _ [34, 35, 36, 37, 38, 39, 40, 41, 19, 42, 27, 28, 29, 30, 73, 74, 75, 76, 77, 78, 79, 80, 81, 82, 83, 84, 85, 86, 87, 88, 89, 90, 91, 92, 93, 94, 95, 96] (by decide +kernel) (by decide +kernel)
set_option maxRecDepth 20000 in
theorem gX11_breadth_X1_broad_u337X1 : GoodIn wsX11_breadth (va_wsO RX11 337 RX1 "FurrowFair$Fit" ⟨"FurrowFair$Fit", "broad", "()I"⟩ yX1_broad wsX1_broad) := goodIn_app (goodIn_of _ (by decide +kernel)) ggX11_breadth_X1_broad
set_option maxRecDepth 20000 in
theorem ggX11_breadth_X2_broad : GoodIn wsX11_breadth wsX2_broad := goodIn_r _ [29, 30, 73, 74, 75, 76, 77, 78, 79, 80, 81, 82, 83, 84, 85, 86, 87, 88, 89, 90, 91, 92, 93, 94, 95, 96] (by decide +kernel) (by decide +kernel)
set_option maxRecDepth 20000 in
theorem gX11_breadth_X2_broad : GoodIn wsX11_breadth (wsV RX11 337 RX2 yX2_broad wsX2_broad) := goodIn_app (goodIn_of _ (by decide +kernel)) ggX11_breadth_X2_broad
set_option maxRecDepth 20000 in
theorem ggX11_breadth_X5_broad : GoodIn wsX11_breadth wsX5_broad := goodIn_r _ [48, 49, 50, 51, 19, 52, 27, 28, 29, 30, 73, 74, 75, 76, 77, 78, 79, 80, 81, 82, 83, 84, 85, 86, 87, 88, 89, 90, 91, 92, 93, 94, 95, 96] (by decide +kernel) (by decide +kernel)
set_option maxRecDepth 20000 in
theorem gX11_breadth_X5_broad_u337X5 : GoodIn wsX11_breadth (va_wsO RX11 337 RX5 "FurrowFair$Fit" ⟨"FurrowFair$Fit", "broad", "()I"⟩ yX5_broad wsX5_broad) := goodIn_app (goodIn_of _ (by decide +kernel)) ggX11_breadth_X5_broad
set_option maxRecDepth 20000 in
theorem ggX11_breadth_X9_broad : GoodIn wsX11_breadth wsX9_broad := goodIn_r _ [40, 41, 19, 42, 27, 28, 29, 30, 73, 74, 75, 76, 77, 78, 79, 80, 81, 82, 83, 84, 85, 86, 87, 88, 89, 90, 91, 92, 93, 94, 95, 96] (by decide +kernel) (by decide +kernel)
set_option maxRecDepth 20000 in
theorem gX11_breadth_X9_broad_u337X9 : GoodIn wsX11_breadth (va_wsO RX11 337 RX9 "FurrowFair$Fit" ⟨"FurrowFair$Fit", "broad", "()I"⟩ yX9_broad wsX9_broad) := goodIn_app (goodIn_of _ (by decide +kernel)) ggX11_breadth_X9_broad
set_option maxRecDepth 20000 in
theorem ggX11_breadth_X10_broad : GoodIn wsX11_breadth wsX10_broad := goodIn_r _ [57, 58, 59, 60, 22, 23, 24, 25, 19, 26, 27, 28, 29, 30, 73, 74, 75, 76, 77, 78, 79, 80, 81, 82, 83, 84, 85, 86, 87, 88, 89, 90, 91, 92, 93, 94, 95, 96] (by decide +kernel) (by decide +kernel)
set_option maxRecDepth 20000 in
theorem gX11_breadth_X10_broad_u337X10 : GoodIn wsX11_breadth (va_wsO RX11 337 RX10 "FurrowFair$Fit" ⟨"FurrowFair$Fit", "broad", "()I"⟩ yX10_broad wsX10_broad) := goodIn_app (goodIn_of _ (by decide +kernel)) ggX11_breadth_X10_broad
theorem dX11_breadth_0 : decode cX11_breadth 0 = .ok (.aload_n 0, 1) := by decide +kernel
theorem dX11_breadth_1 : decode cX11_breadth 1 = .ok (.iload_n 1, 1) := by decide +kernel
theorem dX11_breadth_2 : decode cX11_breadth 2 = .ok (.invokevirtual 330, 3) := by decide +kernel
theorem dX11_breadth_5 : decode cX11_breadth 5 = .ok (.istore_n 2, 1) := by decide +kernel
theorem dX11_breadth_6 : decode cX11_breadth 6 = .ok (.iload_n 2, 1) := by decide +kernel
theorem dX11_breadth_7 : decode cX11_breadth 7 = .ok (.ifCond .eq 7, 3) := by decide +kernel
theorem dX11_breadth_10 : decode cX11_breadth 10 = .ok (.iload_n 2, 1) := by decide +kernel
theorem dX11_breadth_11 : decode cX11_breadth 11 = .ok (.goto 15, 3) := by decide +kernel
theorem dX11_breadth_14 : decode cX11_breadth 14 = .ok (.aload_n 0, 1) := by decide +kernel
theorem dX11_breadth_15 : decode cX11_breadth 15 = .ok (.getfield 44, 3) := by decide +kernel
theorem dX11_breadth_18 : decode cX11_breadth 18 = .ok (.iload_n 1, 1) := by decide +kernel
theorem dX11_breadth_19 : decode cX11_breadth 19 = .ok (.aaload, 1) := by decide +kernel
theorem dX11_breadth_20 : decode cX11_breadth 20 = .ok (.getfield 333, 3) := by decide +kernel
theorem dX11_breadth_23 : decode cX11_breadth 23 = .ok (.invokevirtual 337, 3) := by decide +kernel
theorem dX11_breadth_26 : decode cX11_breadth 26 = .ok (.ireturn, 1) := by decide +kernel
set_option maxRecDepth 20000 in
theorem ggX11_toss_X11_heldFitFault : GoodIn wsX11_toss wsX11_heldFitFault := goodIn_r _ [7, 1, 2, 8, 9, 6, 10, 11, 12, 13, 14, 15, 16, 17, 81, 82, 83, 84, 85, 86, 87, 88, 89, 90, 91, 92] (by decide +kernel) (by decide +kernel)
set_option maxRecDepth 20000 in
theorem gX11_toss_X11_heldFitFault : GoodIn wsX11_toss (wsV RX11 330 RX11 yX11_heldFitFault wsX11_heldFitFault) := goodIn_app (goodIn_of _ (by decide +kernel)) ggX11_toss_X11_heldFitFault
set_option maxRecDepth 20000 in
theorem ggX11_toss_X2_caught : GoodIn wsX11_toss wsX2_caught := goodIn_ca (goodIn_r _ [23, 24, 25, 26, 27, 28, 22, 29, 30, 31, 32, 33, 34, 35, 36, 37, 38, 39, 40, 41, 42, 43, 44, 45, 46, 47, 48, 49, 50, 51, 52, 53, 54, 55, 56, 57, 58, 59, 60, 61, 62, 63, 64, 65, 66, 67, 68, 69, 70, 71, 72, 73, 74, 93, 94, 95, 96, 97, 98, 99, 100, 101, 102, 103, 104, 105, 106, 107, 108, 109, 110, 111, 112, 113, 114, 115, 116] (by decide +kernel) (by decide +kernel)) (goodIn_sub (fun _ h => List.mem_cons_of_mem _ (List.mem_append_right _ h)) (by decide +kernel))
set_option maxRecDepth 20000 in
theorem gX11_toss_X2_caught_u342X0 : GoodIn wsX11_toss (va_wsU RX11 342 RX0 "FurrowFair$Fit" ⟨"FurrowFair$Fit", "caught", "()I"⟩ yX2_caught wsX2_caught) := goodIn_app (goodIn_of _ (by decide +kernel)) ggX11_toss_X2_caught
set_option maxRecDepth 20000 in
theorem gX11_toss_X2_caught_u342X1 : GoodIn wsX11_toss (va_wsU RX11 342 RX1 "FurrowFair$Fit" ⟨"FurrowFair$Fit", "caught", "()I"⟩ yX2_caught wsX2_caught) := goodIn_app (goodIn_of _ (by decide +kernel)) ggX11_toss_X2_caught
set_option maxRecDepth 20000 in
theorem gX11_toss_X2_caught : GoodIn wsX11_toss (wsV RX11 342 RX2 yX2_caught wsX2_caught) := goodIn_app (goodIn_of _ (by decide +kernel)) ggX11_toss_X2_caught
set_option maxRecDepth 20000 in
theorem gX11_toss_X2_caught_u342X5 : GoodIn wsX11_toss (va_wsU RX11 342 RX5 "FurrowFair$Fit" ⟨"FurrowFair$Fit", "caught", "()I"⟩ yX2_caught wsX2_caught) := goodIn_app (goodIn_of _ (by decide +kernel)) ggX11_toss_X2_caught
set_option maxRecDepth 20000 in
theorem gX11_toss_X2_caught_u342X9 : GoodIn wsX11_toss (va_wsU RX11 342 RX9 "FurrowFair$Fit" ⟨"FurrowFair$Fit", "caught", "()I"⟩ yX2_caught wsX2_caught) := goodIn_app (goodIn_of _ (by decide +kernel)) ggX11_toss_X2_caught
set_option maxRecDepth 20000 in
theorem gX11_toss_X2_caught_u342X10 : GoodIn wsX11_toss (va_wsU RX11 342 RX10 "FurrowFair$Fit" ⟨"FurrowFair$Fit", "caught", "()I"⟩ yX2_caught wsX2_caught) := goodIn_app (goodIn_of _ (by decide +kernel)) ggX11_toss_X2_caught
theorem dX11_toss_0 : decode cX11_toss 0 = .ok (.aload_n 0, 1) := by decide +kernel
theorem dX11_toss_1 : decode cX11_toss 1 = .ok (.iload_n 1, 1) := by decide +kernel
theorem dX11_toss_2 : decode cX11_toss 2 = .ok (.invokevirtual 330, 3) := by decide +kernel
theorem dX11_toss_5 : decode cX11_toss 5 = .ok (.istore_n 2, 1) := by decide +kernel
theorem dX11_toss_6 : decode cX11_toss 6 = .ok (.iload_n 2, 1) := by decide +kernel
theorem dX11_toss_7 : decode cX11_toss 7 = .ok (.ifCond .eq 7, 3) := by decide +kernel
theorem dX11_toss_10 : decode cX11_toss 10 = .ok (.iload_n 2, 1) := by decide +kernel
theorem dX11_toss_11 : decode cX11_toss 11 = .ok (.goto 15, 3) := by decide +kernel
theorem dX11_toss_14 : decode cX11_toss 14 = .ok (.aload_n 0, 1) := by decide +kernel
theorem dX11_toss_15 : decode cX11_toss 15 = .ok (.getfield 44, 3) := by decide +kernel
theorem dX11_toss_18 : decode cX11_toss 18 = .ok (.iload_n 1, 1) := by decide +kernel
theorem dX11_toss_19 : decode cX11_toss 19 = .ok (.aaload, 1) := by decide +kernel
theorem dX11_toss_20 : decode cX11_toss 20 = .ok (.getfield 333, 3) := by decide +kernel
theorem dX11_toss_23 : decode cX11_toss 23 = .ok (.invokevirtual 342, 3) := by decide +kernel
theorem dX11_toss_26 : decode cX11_toss 26 = .ok (.ireturn, 1) := by decide +kernel
theorem dX11_isShelf_0 : decode cX11_isShelf 0 = .ok (.iload_n 0, 1) := by decide +kernel
theorem dX11_isShelf_1 : decode cX11_isShelf 1 = .ok (.ifCond .lt 13, 3) := by decide +kernel
theorem dX11_isShelf_4 : decode cX11_isShelf 4 = .ok (.iload_n 0, 1) := by decide +kernel
theorem dX11_isShelf_5 : decode cX11_isShelf 5 = .ok (.bipush 8, 2) := by decide +kernel
theorem dX11_isShelf_7 : decode cX11_isShelf 7 = .ok (.if_icmp .ge 7, 3) := by decide +kernel
theorem dX11_isShelf_10 : decode cX11_isShelf 10 = .ok (.iconst 1, 1) := by decide +kernel
theorem dX11_isShelf_11 : decode cX11_isShelf 11 = .ok (.goto 4, 3) := by decide +kernel
theorem dX11_isShelf_14 : decode cX11_isShelf 14 = .ok (.iconst 0, 1) := by decide +kernel
theorem dX11_isShelf_15 : decode cX11_isShelf 15 = .ok (.ireturn, 1) := by decide +kernel
theorem dX11_isBit_0 : decode cX11_isBit 0 = .ok (.iload_n 0, 1) := by decide +kernel
theorem dX11_isBit_1 : decode cX11_isBit 1 = .ok (.ifCond .eq 8, 3) := by decide +kernel
theorem dX11_isBit_4 : decode cX11_isBit 4 = .ok (.iload_n 0, 1) := by decide +kernel
theorem dX11_isBit_5 : decode cX11_isBit 5 = .ok (.iconst 1, 1) := by decide +kernel
theorem dX11_isBit_6 : decode cX11_isBit 6 = .ok (.if_icmp .ne 7, 3) := by decide +kernel
theorem dX11_isBit_9 : decode cX11_isBit 9 = .ok (.iconst 1, 1) := by decide +kernel
theorem dX11_isBit_10 : decode cX11_isBit 10 = .ok (.goto 4, 3) := by decide +kernel
theorem dX11_isBit_13 : decode cX11_isBit 13 = .ok (.iconst 0, 1) := by decide +kernel
theorem dX11_isBit_14 : decode cX11_isBit 14 = .ok (.ireturn, 1) := by decide +kernel
theorem dX11_isSpan_0 : decode cX11_isSpan 0 = .ok (.iload_n 0, 1) := by decide +kernel
theorem dX11_isSpan_1 : decode cX11_isSpan 1 = .ok (.iconst 1, 1) := by decide +kernel
theorem dX11_isSpan_2 : decode cX11_isSpan 2 = .ok (.if_icmp .lt 13, 3) := by decide +kernel
theorem dX11_isSpan_5 : decode cX11_isSpan 5 = .ok (.iload_n 0, 1) := by decide +kernel
theorem dX11_isSpan_6 : decode cX11_isSpan 6 = .ok (.bipush 12, 2) := by decide +kernel
theorem dX11_isSpan_8 : decode cX11_isSpan 8 = .ok (.if_icmp .gt 7, 3) := by decide +kernel
theorem dX11_isSpan_11 : decode cX11_isSpan 11 = .ok (.iconst 1, 1) := by decide +kernel
theorem dX11_isSpan_12 : decode cX11_isSpan 12 = .ok (.goto 4, 3) := by decide +kernel
theorem dX11_isSpan_15 : decode cX11_isSpan 15 = .ok (.iconst 0, 1) := by decide +kernel
theorem dX11_isSpan_16 : decode cX11_isSpan 16 = .ok (.ireturn, 1) := by decide +kernel
set_option maxRecDepth 20000 in
theorem ggX11_fitFault_X4_hasFit : GoodIn wsX11_fitFault wsX4_hasFit := goodIn_r _ [7, 8, 9, 18, 19, 20, 21, 22, 23, 24, 25, 26] (by decide +kernel) (by decide +kernel)
set_option maxRecDepth 20000 in
theorem gX11_fitFault_X4_hasFit : GoodIn wsX11_fitFault (wsV RX11 111 RX4 yX4_hasFit wsX4_hasFit) := goodIn_app (goodIn_of _ (by decide +kernel)) ggX11_fitFault_X4_hasFit
theorem dX11_fitFault_0 : decode cX11_fitFault 0 = .ok (.aload_n 0, 1) := by decide +kernel
theorem dX11_fitFault_1 : decode cX11_fitFault 1 = .ok (.getfield 70, 3) := by decide +kernel
theorem dX11_fitFault_4 : decode cX11_fitFault 4 = .ok (.ifCond .ne 6, 3) := by decide +kernel
theorem dX11_fitFault_7 : decode cX11_fitFault 7 = .ok (.bipush (-3), 2) := by decide +kernel
theorem dX11_fitFault_9 : decode cX11_fitFault 9 = .ok (.ireturn, 1) := by decide +kernel
theorem dX11_fitFault_10 : decode cX11_fitFault 10 = .ok (.aload_n 0, 1) := by decide +kernel
theorem dX11_fitFault_11 : decode cX11_fitFault 11 = .ok (.getfield 10, 3) := by decide +kernel
theorem dX11_fitFault_14 : decode cX11_fitFault 14 = .ok (.iload_n 1, 1) := by decide +kernel
theorem dX11_fitFault_15 : decode cX11_fitFault 15 = .ok (.invokevirtual 111, 3) := by decide +kernel
theorem dX11_fitFault_18 : decode cX11_fitFault 18 = .ok (.ifCond .eq 7, 3) := by decide +kernel
theorem dX11_fitFault_21 : decode cX11_fitFault 21 = .ok (.iconst 0, 1) := by decide +kernel
theorem dX11_fitFault_22 : decode cX11_fitFault 22 = .ok (.goto 4, 3) := by decide +kernel
theorem dX11_fitFault_25 : decode cX11_fitFault 25 = .ok (.iconst (-1), 1) := by decide +kernel
theorem dX11_fitFault_26 : decode cX11_fitFault 26 = .ok (.ireturn, 1) := by decide +kernel
set_option maxRecDepth 20000 in
theorem ggX11_sureFitFault_X11_fitFault : GoodIn wsX11_sureFitFault wsX11_fitFault := goodIn_r _ [5, 6, 7, 8, 9, 10, 11, 12, 13, 14, 94, 95, 96, 97, 98, 99, 100, 101, 102, 103, 104, 105, 106, 107, 108, 109, 110] (by decide +kernel) (by decide +kernel)
set_option maxRecDepth 20000 in
theorem gX11_sureFitFault_X11_fitFault : GoodIn wsX11_sureFitFault (wsV RX11 138 RX11 yX11_fitFault wsX11_fitFault) := goodIn_app (goodIn_of _ (by decide +kernel)) ggX11_sureFitFault_X11_fitFault
set_option maxRecDepth 20000 in
theorem ggX11_sureFitFault_X11_isSureFit : GoodIn wsX11_sureFitFault wsX11_isSureFit := goodIn_r _ [18, 7, 19, 8, 9, 10, 11, 12, 13, 14, 20, 21, 22, 23, 24, 25, 26, 27, 28, 29, 30, 31, 32, 33, 34, 35, 36, 37, 38, 39, 40, 41, 42, 43, 44, 45, 46, 47, 48, 49, 50, 51, 52, 53, 54, 55, 56, 57, 58, 59, 60, 61, 62, 63, 64, 65, 66, 67, 68, 69, 70, 71, 72, 73, 74, 75, 76, 77, 78, 79, 80, 81, 82, 83, 84, 85, 86, 87, 88, 89, 90, 91, 92, 93, 94, 95, 96, 97, 98, 99, 100, 101, 102, 103, 104, 105, 106, 107, 108, 109, 110, 111, 112, 113, 114, 115, 116, 117, 118, 119, 120, 121, 122, 123, 124] (by decide +kernel) (by decide +kernel)
set_option maxRecDepth 20000 in
theorem gX11_sureFitFault_X11_isSureFit : GoodIn wsX11_sureFitFault (wsV RX11 148 RX11 yX11_isSureFit wsX11_isSureFit) := goodIn_app (goodIn_of _ (by decide +kernel)) ggX11_sureFitFault_X11_isSureFit
theorem dX11_sureFitFault_0 : decode cX11_sureFitFault 0 = .ok (.aload_n 0, 1) := by decide +kernel
theorem dX11_sureFitFault_1 : decode cX11_sureFitFault 1 = .ok (.iload_n 1, 1) := by decide +kernel
theorem dX11_sureFitFault_2 : decode cX11_sureFitFault 2 = .ok (.invokevirtual 138, 3) := by decide +kernel
theorem dX11_sureFitFault_5 : decode cX11_sureFitFault 5 = .ok (.istore_n 2, 1) := by decide +kernel
theorem dX11_sureFitFault_6 : decode cX11_sureFitFault 6 = .ok (.iload_n 2, 1) := by decide +kernel
theorem dX11_sureFitFault_7 : decode cX11_sureFitFault 7 = .ok (.ifCond .eq 5, 3) := by decide +kernel
theorem dX11_sureFitFault_10 : decode cX11_sureFitFault 10 = .ok (.iload_n 2, 1) := by decide +kernel
theorem dX11_sureFitFault_11 : decode cX11_sureFitFault 11 = .ok (.ireturn, 1) := by decide +kernel
theorem dX11_sureFitFault_12 : decode cX11_sureFitFault 12 = .ok (.aload_n 0, 1) := by decide +kernel
theorem dX11_sureFitFault_13 : decode cX11_sureFitFault 13 = .ok (.iload_n 1, 1) := by decide +kernel
theorem dX11_sureFitFault_14 : decode cX11_sureFitFault 14 = .ok (.invokevirtual 148, 3) := by decide +kernel
theorem dX11_sureFitFault_17 : decode cX11_sureFitFault 17 = .ok (.ifCond .eq 7, 3) := by decide +kernel
theorem dX11_sureFitFault_20 : decode cX11_sureFitFault 20 = .ok (.iconst 0, 1) := by decide +kernel
theorem dX11_sureFitFault_21 : decode cX11_sureFitFault 21 = .ok (.goto 5, 3) := by decide +kernel
theorem dX11_sureFitFault_24 : decode cX11_sureFitFault 24 = .ok (.bipush (-3), 2) := by decide +kernel
theorem dX11_sureFitFault_26 : decode cX11_sureFitFault 26 = .ok (.ireturn, 1) := by decide +kernel
set_option maxRecDepth 20000 in
theorem ggX11_isSureFit_X4_hasFit : GoodIn wsX11_isSureFit wsX4_hasFit := goodIn_r _ [7, 8, 9, 92, 93, 94, 95, 96, 97, 98, 99, 100] (by decide +kernel) (by decide +kernel)
set_option maxRecDepth 20000 in
theorem gX11_isSureFit_X4_hasFit : GoodIn wsX11_isSureFit (wsV RX11 111 RX4 yX4_hasFit wsX4_hasFit) := goodIn_app (goodIn_of _ (by decide +kernel)) ggX11_isSureFit_X4_hasFit
set_option maxRecDepth 20000 in
theorem ggX11_isSureFit_X7_weigh : GoodIn wsX11_isSureFit wsX7_weigh := goodIn_r _ [14, 15, 16, 17, 18, 19, 20, 21, 22, 13, 23, 24, 25, 26, 27, 28, 29, 30, 31, 32, 33, 34, 35, 36, 37, 38, 39, 40, 41, 42, 43, 44, 45, 6, 46, 8, 47, 48, 49, 50, 51, 52, 53, 54, 55, 101, 102, 103, 104, 105, 106, 107, 108, 109, 110, 111, 112, 113, 114, 92, 93, 94, 95, 96, 97, 98, 99, 100] (by decide +kernel) (by decide +kernel)
set_option maxRecDepth 20000 in
theorem gX11_isSureFit_X7_weigh : GoodIn wsX11_isSureFit (wsV RX11 116 RX7 yX7_weigh wsX7_weigh) := goodIn_app (goodIn_of _ (by decide +kernel)) ggX11_isSureFit_X7_weigh
set_option maxRecDepth 20000 in
theorem ggX11_isSureFit_X7_isSure : GoodIn wsX11_isSureFit wsX7_isSure := goodIn_r _ [59, 24, 60, 61, 62, 63, 13, 64, 15, 25, 65, 66, 67, 68, 26, 16, 69, 70, 71, 72, 73, 74, 75, 76, 77, 78, 79, 17, 36, 18, 19, 80, 81, 82, 83, 101, 102, 103, 104, 105, 106, 107, 108, 109, 110, 111, 112, 113, 114, 92, 93, 94, 95, 96, 97, 98, 99, 100] (by decide +kernel) (by decide +kernel)
set_option maxRecDepth 20000 in
theorem gX11_isSureFit_X7_isSure : GoodIn wsX11_isSureFit (wsV RX11 345 RX7 yX7_isSure wsX7_isSure) := goodIn_app (goodIn_of _ (by decide +kernel)) ggX11_isSureFit_X7_isSure
theorem dX11_isSureFit_0 : decode cX11_isSureFit 0 = .ok (.aload_n 0, 1) := by decide +kernel
theorem dX11_isSureFit_1 : decode cX11_isSureFit 1 = .ok (.getfield 10, 3) := by decide +kernel
theorem dX11_isSureFit_4 : decode cX11_isSureFit 4 = .ok (.iload_n 1, 1) := by decide +kernel
theorem dX11_isSureFit_5 : decode cX11_isSureFit 5 = .ok (.invokevirtual 111, 3) := by decide +kernel
theorem dX11_isSureFit_8 : decode cX11_isSureFit 8 = .ok (.ifCond .ne 5, 3) := by decide +kernel
theorem dX11_isSureFit_11 : decode cX11_isSureFit 11 = .ok (.iconst 0, 1) := by decide +kernel
theorem dX11_isSureFit_12 : decode cX11_isSureFit 12 = .ok (.ireturn, 1) := by decide +kernel
theorem dX11_isSureFit_13 : decode cX11_isSureFit 13 = .ok (.aload_n 0, 1) := by decide +kernel
theorem dX11_isSureFit_14 : decode cX11_isSureFit 14 = .ok (.getfield 31, 3) := by decide +kernel
theorem dX11_isSureFit_17 : decode cX11_isSureFit 17 = .ok (.iload_n 1, 1) := by decide +kernel
theorem dX11_isSureFit_18 : decode cX11_isSureFit 18 = .ok (.invokevirtual 116, 3) := by decide +kernel
theorem dX11_isSureFit_21 : decode cX11_isSureFit 21 = .ok (.aload_n 0, 1) := by decide +kernel
theorem dX11_isSureFit_22 : decode cX11_isSureFit 22 = .ok (.getfield 31, 3) := by decide +kernel
theorem dX11_isSureFit_25 : decode cX11_isSureFit 25 = .ok (.invokevirtual 345, 3) := by decide +kernel
theorem dX11_isSureFit_28 : decode cX11_isSureFit 28 = .ok (.ireturn, 1) := by decide +kernel
set_option maxRecDepth 20000 in
theorem ggX11_leastWaste_X4_fitNumbers : GoodIn wsX11_leastWaste wsX4_fitNumbers := goodIn_r _ [7, 8, 105, 106, 107, 108, 109, 110, 111, 112, 113] (by decide +kernel) (by decide +kernel)
set_option maxRecDepth 20000 in
theorem gX11_leastWaste_X4_fitNumbers : GoodIn wsX11_leastWaste (wsV RX11 145 RX4 yX4_fitNumbers wsX4_fitNumbers) := goodIn_app (goodIn_of _ (by decide +kernel)) ggX11_leastWaste_X4_fitNumbers
set_option maxRecDepth 20000 in
theorem ggX11_leastWaste_X11_isSureFit : GoodIn wsX11_leastWaste wsX11_isSureFit := goodIn_r _ [13, 1, 2, 14, 15, 16, 6, 17, 8, 18, 19, 20, 21, 22, 23, 24, 25, 26, 27, 28, 29, 30, 31, 32, 33, 34, 35, 36, 37, 38, 39, 40, 41, 42, 43, 44, 45, 46, 47, 48, 49, 50, 51, 52, 53, 54, 55, 56, 57, 58, 59, 60, 61, 62, 63, 64, 65, 66, 67, 68, 69, 70, 71, 72, 73, 74, 75, 76, 77, 78, 79, 80, 81, 82, 83, 84, 85, 86, 87, 88, 89, 90, 91, 92, 97, 98, 99, 100, 101, 102, 103, 104, 105, 106, 107, 108, 109, 110, 111, 112, 113, 114, 115, 116, 117, 118, 119, 120, 121, 122, 123, 124, 125, 126, 127] (by decide +kernel) (by decide +kernel)
set_option maxRecDepth 20000 in
theorem gX11_leastWaste_X11_isSureFit : GoodIn wsX11_leastWaste (wsV RX11 148 RX11 yX11_isSureFit wsX11_isSureFit) := goodIn_app (goodIn_of _ (by decide +kernel)) ggX11_leastWaste_X11_isSureFit
set_option maxRecDepth 20000 in
theorem ggX11_leastWaste_X7_wasted : GoodIn wsX11_leastWaste wsX7_wasted := goodIn_r _ [96, 24, 34, 35, 44, 84, 114, 115, 116, 117, 118, 119, 120, 121, 122, 123, 124, 125, 126, 127, 105, 106, 107, 108, 109, 110, 111, 112, 113] (by decide +kernel) (by decide +kernel)
set_option maxRecDepth 20000 in
theorem gX11_leastWaste_X7_wasted : GoodIn wsX11_leastWaste (wsV RX11 183 RX7 yX7_wasted wsX7_wasted) := goodIn_app (goodIn_of _ (by decide +kernel)) ggX11_leastWaste_X7_wasted
theorem dX11_leastWaste_0 : decode cX11_leastWaste 0 = .ok (.aload_n 0, 1) := by decide +kernel
theorem dX11_leastWaste_1 : decode cX11_leastWaste 1 = .ok (.getfield 10, 3) := by decide +kernel
theorem dX11_leastWaste_4 : decode cX11_leastWaste 4 = .ok (.invokevirtual 145, 3) := by decide +kernel
theorem dX11_leastWaste_7 : decode cX11_leastWaste 7 = .ok (.istore_n 1, 1) := by decide +kernel
theorem dX11_leastWaste_8 : decode cX11_leastWaste 8 = .ok (.bipush (-4), 2) := by decide +kernel
theorem dX11_leastWaste_10 : decode cX11_leastWaste 10 = .ok (.istore_n 2, 1) := by decide +kernel
theorem dX11_leastWaste_11 : decode cX11_leastWaste 11 = .ok (.iconst 0, 1) := by decide +kernel
theorem dX11_leastWaste_12 : decode cX11_leastWaste 12 = .ok (.istore_n 3, 1) := by decide +kernel
theorem dX11_leastWaste_13 : decode cX11_leastWaste 13 = .ok (.iload_n 3, 1) := by decide +kernel
theorem dX11_leastWaste_14 : decode cX11_leastWaste 14 = .ok (.iload_n 1, 1) := by decide +kernel
theorem dX11_leastWaste_15 : decode cX11_leastWaste 15 = .ok (.if_icmp .ge 45, 3) := by decide +kernel
theorem dX11_leastWaste_18 : decode cX11_leastWaste 18 = .ok (.aload_n 0, 1) := by decide +kernel
theorem dX11_leastWaste_19 : decode cX11_leastWaste 19 = .ok (.iload_n 3, 1) := by decide +kernel
theorem dX11_leastWaste_20 : decode cX11_leastWaste 20 = .ok (.invokevirtual 148, 3) := by decide +kernel
theorem dX11_leastWaste_23 : decode cX11_leastWaste 23 = .ok (.ifCond .eq 31, 3) := by decide +kernel
theorem dX11_leastWaste_26 : decode cX11_leastWaste 26 = .ok (.aload_n 0, 1) := by decide +kernel
theorem dX11_leastWaste_27 : decode cX11_leastWaste 27 = .ok (.getfield 31, 3) := by decide +kernel
theorem dX11_leastWaste_30 : decode cX11_leastWaste 30 = .ok (.invokevirtual 183, 3) := by decide +kernel
theorem dX11_leastWaste_33 : decode cX11_leastWaste 33 = .ok (.istore 4, 2) := by decide +kernel
theorem dX11_leastWaste_35 : decode cX11_leastWaste 35 = .ok (.iload_n 2, 1) := by decide +kernel
theorem dX11_leastWaste_36 : decode cX11_leastWaste 36 = .ok (.bipush (-4), 2) := by decide +kernel
theorem dX11_leastWaste_38 : decode cX11_leastWaste 38 = .ok (.if_icmp .eq 9, 3) := by decide +kernel
theorem dX11_leastWaste_41 : decode cX11_leastWaste 41 = .ok (.iload 4, 2) := by decide +kernel
theorem dX11_leastWaste_43 : decode cX11_leastWaste 43 = .ok (.iload_n 2, 1) := by decide +kernel
theorem dX11_leastWaste_44 : decode cX11_leastWaste 44 = .ok (.if_icmp .ge 8, 3) := by decide +kernel
theorem dX11_leastWaste_47 : decode cX11_leastWaste 47 = .ok (.iload 4, 2) := by decide +kernel
theorem dX11_leastWaste_49 : decode cX11_leastWaste 49 = .ok (.goto 4, 3) := by decide +kernel
theorem dX11_leastWaste_52 : decode cX11_leastWaste 52 = .ok (.iload_n 2, 1) := by decide +kernel
theorem dX11_leastWaste_53 : decode cX11_leastWaste 53 = .ok (.istore_n 2, 1) := by decide +kernel
theorem dX11_leastWaste_54 : decode cX11_leastWaste 54 = .ok (.iinc 3 1, 3) := by decide +kernel
theorem dX11_leastWaste_57 : decode cX11_leastWaste 57 = .ok (.goto (-44), 3) := by decide +kernel
theorem dX11_leastWaste_60 : decode cX11_leastWaste 60 = .ok (.iload_n 2, 1) := by decide +kernel
theorem dX11_leastWaste_61 : decode cX11_leastWaste 61 = .ok (.ireturn, 1) := by decide +kernel
set_option maxRecDepth 20000 in
theorem ggX11_lineFault_X11_isShelf : GoodIn wsX11_lineFault wsX11_isShelf := goodIn_r _ [7] (by decide +kernel) (by decide +kernel)
set_option maxRecDepth 20000 in
theorem gX11_lineFault_X11_isShelf : GoodIn wsX11_lineFault (va_wsS RX11 49 yX11_isShelf wsX11_isShelf) := goodIn_app (goodIn_of _ (by decide +kernel)) ggX11_lineFault_X11_isShelf
set_option maxRecDepth 20000 in
theorem ggX11_lineFault_X8_isBare : GoodIn wsX11_lineFault wsX8_isBare := goodIn_r _ [12, 13, 14, 50, 51, 52, 53] (by decide +kernel) (by decide +kernel)
set_option maxRecDepth 20000 in
theorem gX11_lineFault_X8_isBare : GoodIn wsX11_lineFault (wsV RX11 53 RX8 yX8_isBare wsX8_isBare) := goodIn_app (goodIn_of _ (by decide +kernel)) ggX11_lineFault_X8_isBare
set_option maxRecDepth 20000 in
theorem ggX11_lineFault_X8_holdsRowOf : GoodIn wsX11_lineFault wsX8_holdsRowOf := goodIn_r _ [18, 14, 19, 20, 21, 11, 22, 50, 51, 52, 53] (by decide +kernel) (by decide +kernel)
set_option maxRecDepth 20000 in
theorem gX11_lineFault_X8_holdsRowOf : GoodIn wsX11_lineFault (wsV RX11 57 RX8 yX8_holdsRowOf wsX8_holdsRowOf) := goodIn_app (goodIn_of _ (by decide +kernel)) ggX11_lineFault_X8_holdsRowOf
set_option maxRecDepth 20000 in
theorem ggX11_lineFault_X3_readFrom : GoodIn wsX11_lineFault wsX3_readFrom := goodIn_r _ [27, 28, 29, 30, 31, 32, 33, 34, 35, 36, 26, 37, 38, 39, 40, 41, 50, 51, 52, 53, 54, 55, 56, 57, 58, 59, 60, 61, 62, 63, 64, 65, 66] (by decide +kernel) (by decide +kernel)
set_option maxRecDepth 20000 in
theorem gX11_lineFault_X3_readFrom : GoodIn wsX11_lineFault (wsV RX11 348 RX3 yX3_readFrom wsX3_readFrom) := goodIn_app (goodIn_of _ (by decide +kernel)) ggX11_lineFault_X3_readFrom
theorem dX11_lineFault_0 : decode cX11_lineFault 0 = .ok (.aload_n 0, 1) := by decide +kernel
theorem dX11_lineFault_1 : decode cX11_lineFault 1 = .ok (.getfield 70, 3) := by decide +kernel
theorem dX11_lineFault_4 : decode cX11_lineFault 4 = .ok (.ifCond .ne 6, 3) := by decide +kernel
theorem dX11_lineFault_7 : decode cX11_lineFault 7 = .ok (.bipush (-3), 2) := by decide +kernel
theorem dX11_lineFault_9 : decode cX11_lineFault 9 = .ok (.ireturn, 1) := by decide +kernel
theorem dX11_lineFault_10 : decode cX11_lineFault 10 = .ok (.iload_n 1, 1) := by decide +kernel
theorem dX11_lineFault_11 : decode cX11_lineFault 11 = .ok (.invokestatic 49, 3) := by decide +kernel
theorem dX11_lineFault_14 : decode cX11_lineFault 14 = .ok (.ifCond .ne 5, 3) := by decide +kernel
theorem dX11_lineFault_17 : decode cX11_lineFault 17 = .ok (.iconst (-1), 1) := by decide +kernel
theorem dX11_lineFault_18 : decode cX11_lineFault 18 = .ok (.ireturn, 1) := by decide +kernel
theorem dX11_lineFault_19 : decode cX11_lineFault 19 = .ok (.aload_n 0, 1) := by decide +kernel
theorem dX11_lineFault_20 : decode cX11_lineFault 20 = .ok (.getfield 44, 3) := by decide +kernel
theorem dX11_lineFault_23 : decode cX11_lineFault 23 = .ok (.iload_n 1, 1) := by decide +kernel
theorem dX11_lineFault_24 : decode cX11_lineFault 24 = .ok (.aaload, 1) := by decide +kernel
theorem dX11_lineFault_25 : decode cX11_lineFault 25 = .ok (.astore_n 2, 1) := by decide +kernel
theorem dX11_lineFault_26 : decode cX11_lineFault 26 = .ok (.aload_n 2, 1) := by decide +kernel
theorem dX11_lineFault_27 : decode cX11_lineFault 27 = .ok (.invokevirtual 53, 3) := by decide +kernel
theorem dX11_lineFault_30 : decode cX11_lineFault 30 = .ok (.ifCond .eq 6, 3) := by decide +kernel
theorem dX11_lineFault_33 : decode cX11_lineFault 33 = .ok (.bipush (-11), 2) := by decide +kernel
theorem dX11_lineFault_35 : decode cX11_lineFault 35 = .ok (.ireturn, 1) := by decide +kernel
theorem dX11_lineFault_36 : decode cX11_lineFault 36 = .ok (.aload_n 2, 1) := by decide +kernel
theorem dX11_lineFault_37 : decode cX11_lineFault 37 = .ok (.iconst 1, 1) := by decide +kernel
theorem dX11_lineFault_38 : decode cX11_lineFault 38 = .ok (.invokevirtual 57, 3) := by decide +kernel
theorem dX11_lineFault_41 : decode cX11_lineFault 41 = .ok (.ifCond .ne 6, 3) := by decide +kernel
theorem dX11_lineFault_44 : decode cX11_lineFault 44 = .ok (.bipush (-12), 2) := by decide +kernel
theorem dX11_lineFault_46 : decode cX11_lineFault 46 = .ok (.ireturn, 1) := by decide +kernel
theorem dX11_lineFault_47 : decode cX11_lineFault 47 = .ok (.aload_n 0, 1) := by decide +kernel
theorem dX11_lineFault_48 : decode cX11_lineFault 48 = .ok (.getfield 38, 3) := by decide +kernel
theorem dX11_lineFault_51 : decode cX11_lineFault 51 = .ok (.aload_n 2, 1) := by decide +kernel
theorem dX11_lineFault_52 : decode cX11_lineFault 52 = .ok (.invokevirtual 348, 3) := by decide +kernel
theorem dX11_lineFault_55 : decode cX11_lineFault 55 = .ok (.ifCond .eq 7, 3) := by decide +kernel
theorem dX11_lineFault_58 : decode cX11_lineFault 58 = .ok (.iconst 0, 1) := by decide +kernel
theorem dX11_lineFault_59 : decode cX11_lineFault 59 = .ok (.goto 5, 3) := by decide +kernel
theorem dX11_lineFault_62 : decode cX11_lineFault 62 = .ok (.bipush (-13), 2) := by decide +kernel
theorem dX11_lineFault_64 : decode cX11_lineFault 64 = .ok (.ireturn, 1) := by decide +kernel
set_option maxRecDepth 20000 in
theorem ggX11_heldFitFault_X11_isShelf : GoodIn wsX11_heldFitFault wsX11_isShelf := goodIn_r _ [6] (by decide +kernel) (by decide +kernel)
set_option maxRecDepth 20000 in
theorem gX11_heldFitFault_X11_isShelf : GoodIn wsX11_heldFitFault (va_wsS RX11 49 yX11_isShelf wsX11_isShelf) := goodIn_app (goodIn_of _ (by decide +kernel)) ggX11_heldFitFault_X11_isShelf
set_option maxRecDepth 20000 in
theorem ggX11_heldFitFault_X8_isBare : GoodIn wsX11_heldFitFault wsX8_isBare := goodIn_r _ [11, 12, 13, 22, 23, 24, 25] (by decide +kernel) (by decide +kernel)
set_option maxRecDepth 20000 in
theorem gX11_heldFitFault_X8_isBare : GoodIn wsX11_heldFitFault (wsV RX11 53 RX8 yX8_isBare wsX8_isBare) := goodIn_app (goodIn_of _ (by decide +kernel)) ggX11_heldFitFault_X8_isBare
theorem dX11_heldFitFault_0 : decode cX11_heldFitFault 0 = .ok (.iload_n 1, 1) := by decide +kernel
theorem dX11_heldFitFault_1 : decode cX11_heldFitFault 1 = .ok (.invokestatic 49, 3) := by decide +kernel
theorem dX11_heldFitFault_4 : decode cX11_heldFitFault 4 = .ok (.ifCond .ne 5, 3) := by decide +kernel
theorem dX11_heldFitFault_7 : decode cX11_heldFitFault 7 = .ok (.iconst (-1), 1) := by decide +kernel
theorem dX11_heldFitFault_8 : decode cX11_heldFitFault 8 = .ok (.ireturn, 1) := by decide +kernel
theorem dX11_heldFitFault_9 : decode cX11_heldFitFault 9 = .ok (.aload_n 0, 1) := by decide +kernel
theorem dX11_heldFitFault_10 : decode cX11_heldFitFault 10 = .ok (.getfield 44, 3) := by decide +kernel
theorem dX11_heldFitFault_13 : decode cX11_heldFitFault 13 = .ok (.iload_n 1, 1) := by decide +kernel
theorem dX11_heldFitFault_14 : decode cX11_heldFitFault 14 = .ok (.aaload, 1) := by decide +kernel
theorem dX11_heldFitFault_15 : decode cX11_heldFitFault 15 = .ok (.invokevirtual 53, 3) := by decide +kernel
theorem dX11_heldFitFault_18 : decode cX11_heldFitFault 18 = .ok (.ifCond .eq 6, 3) := by decide +kernel
theorem dX11_heldFitFault_21 : decode cX11_heldFitFault 21 = .ok (.bipush (-11), 2) := by decide +kernel
theorem dX11_heldFitFault_23 : decode cX11_heldFitFault 23 = .ok (.ireturn, 1) := by decide +kernel
theorem dX11_heldFitFault_24 : decode cX11_heldFitFault 24 = .ok (.aload_n 0, 1) := by decide +kernel
theorem dX11_heldFitFault_25 : decode cX11_heldFitFault 25 = .ok (.getfield 44, 3) := by decide +kernel
theorem dX11_heldFitFault_28 : decode cX11_heldFitFault 28 = .ok (.iload_n 1, 1) := by decide +kernel
theorem dX11_heldFitFault_29 : decode cX11_heldFitFault 29 = .ok (.aaload, 1) := by decide +kernel
theorem dX11_heldFitFault_30 : decode cX11_heldFitFault 30 = .ok (.getfield 333, 3) := by decide +kernel
theorem dX11_heldFitFault_33 : decode cX11_heldFitFault 33 = .ok (.ifnonnull 8, 3) := by decide +kernel
theorem dX11_heldFitFault_36 : decode cX11_heldFitFault 36 = .ok (.bipush (-12), 2) := by decide +kernel
theorem dX11_heldFitFault_38 : decode cX11_heldFitFault 38 = .ok (.goto 4, 3) := by decide +kernel
theorem dX11_heldFitFault_41 : decode cX11_heldFitFault 41 = .ok (.iconst 0, 1) := by decide +kernel
theorem dX11_heldFitFault_42 : decode cX11_heldFitFault 42 = .ok (.ireturn, 1) := by decide +kernel
set_option maxRecDepth 20000 in
theorem ggX11_fitOfKind_X0_init : GoodIn wsX11_fitOfKind wsX0_init := goodIn_r _ [21, 22, 23, 18, 24, 25, 26, 27, 28, 29, 30, 31, 32, 33, 34, 35, 36, 37, 38, 56, 57, 58, 59, 72, 73, 74, 75, 76, 77, 78, 79, 64, 65, 66, 67, 60, 61, 62, 63, 68, 69, 70, 71] (by decide +kernel) (by decide +kernel)
set_option maxRecDepth 20000 in
theorem gX11_fitOfKind_X0_init : GoodIn wsX11_fitOfKind (wsX0_init) := ggX11_fitOfKind_X0_init
set_option maxRecDepth 20000 in
theorem ggX11_fitOfKind_X9_init : GoodIn wsX11_fitOfKind wsX9_init := goodIn_r _ [41, 42, 23, 18, 24, 25, 26, 27, 28, 29, 30, 31, 32, 33, 34, 35, 36, 37, 38, 56, 57, 58, 59, 72, 73, 74, 75, 76, 77, 78, 79, 64, 65, 66, 67, 60, 61, 62, 63, 68, 69, 70, 71] (by decide +kernel) (by decide +kernel)
set_option maxRecDepth 20000 in
theorem gX11_fitOfKind_X9_init : GoodIn wsX11_fitOfKind (wsX9_init) := ggX11_fitOfKind_X9_init
set_option maxRecDepth 20000 in
theorem ggX11_fitOfKind_X5_init : GoodIn wsX11_fitOfKind wsX5_init := goodIn_r _ [45, 46, 23, 18, 24, 25, 26, 27, 28, 29, 30, 31, 32, 33, 34, 35, 36, 37, 38, 56, 57, 58, 59, 72, 73, 74, 75, 76, 77, 78, 79, 64, 65, 66, 67, 60, 61, 62, 63, 68, 69, 70, 71] (by decide +kernel) (by decide +kernel)
set_option maxRecDepth 20000 in
theorem gX11_fitOfKind_X5_init : GoodIn wsX11_fitOfKind (wsX5_init) := ggX11_fitOfKind_X5_init
set_option maxRecDepth 20000 in
theorem ggX11_fitOfKind_X10_init : GoodIn wsX11_fitOfKind wsX10_init := goodIn_r _ [49, 50, 20, 3, 21, 22, 23, 18, 24, 25, 26, 27, 28, 29, 30, 31, 32, 33, 34, 35, 36, 37, 38, 56, 57, 58, 59, 72, 73, 74, 75, 76, 77, 78, 79, 64, 65, 66, 67, 60, 61, 62, 63, 68, 69, 70, 71] (by decide +kernel) (by decide +kernel)
set_option maxRecDepth 20000 in
theorem gX11_fitOfKind_X10_init : GoodIn wsX11_fitOfKind (wsX10_init) := ggX11_fitOfKind_X10_init
set_option maxRecDepth 20000 in
theorem ggX11_fitOfKind_X1_init : GoodIn wsX11_fitOfKind wsX1_init := goodIn_r _ [53, 54, 40, 6, 41, 42, 23, 18, 24, 25, 26, 27, 28, 29, 30, 31, 32, 33, 34, 35, 36, 37, 38, 56, 57, 58, 59, 72, 73, 74, 75, 76, 77, 78, 79, 64, 65, 66, 67, 60, 61, 62, 63, 68, 69, 70, 71] (by decide +kernel) (by decide +kernel)
set_option maxRecDepth 20000 in
theorem gX11_fitOfKind_X1_init : GoodIn wsX11_fitOfKind (wsX1_init) := ggX11_fitOfKind_X1_init
set_option maxRecDepth 20000 in
theorem ggX11_fitOfKind_X2_init : GoodIn wsX11_fitOfKind wsX2_init := goodIn_r _ [24, 25, 26, 27, 28, 29, 30, 31, 32, 33, 34, 35, 36, 37, 38, 56, 57, 58, 59, 72, 73, 74, 75, 76, 77, 78, 79, 64, 65, 66, 67, 60, 61, 62, 63, 68, 69, 70, 71] (by decide +kernel) (by decide +kernel)
set_option maxRecDepth 20000 in
theorem gX11_fitOfKind_X2_init : GoodIn wsX11_fitOfKind (wsX2_init) := ggX11_fitOfKind_X2_init
theorem dX11_fitOfKind_0 : decode cX11_fitOfKind 0 = .ok (.iload_n 0, 1) := by decide +kernel
theorem dX11_fitOfKind_1 : decode cX11_fitOfKind 1 = .ok (.tableswitch 85 1 5 #[35, 45, 55, 65, 75], 35) := by decide +kernel
theorem dX11_fitOfKind_36 : decode cX11_fitOfKind 36 = .ok (.new 351, 3) := by decide +kernel
theorem dX11_fitOfKind_39 : decode cX11_fitOfKind 39 = .ok (.dup, 1) := by decide +kernel
theorem dX11_fitOfKind_40 : decode cX11_fitOfKind 40 = .ok (.iload_n 1, 1) := by decide +kernel
theorem dX11_fitOfKind_41 : decode cX11_fitOfKind 41 = .ok (.iload_n 2, 1) := by decide +kernel
theorem dX11_fitOfKind_42 : decode cX11_fitOfKind 42 = .ok (.invokespecial 353, 3) := by decide +kernel
theorem dX11_fitOfKind_45 : decode cX11_fitOfKind 45 = .ok (.areturn, 1) := by decide +kernel
theorem dX11_fitOfKind_46 : decode cX11_fitOfKind 46 = .ok (.new 355, 3) := by decide +kernel
theorem dX11_fitOfKind_49 : decode cX11_fitOfKind 49 = .ok (.dup, 1) := by decide +kernel
theorem dX11_fitOfKind_50 : decode cX11_fitOfKind 50 = .ok (.iload_n 1, 1) := by decide +kernel
theorem dX11_fitOfKind_51 : decode cX11_fitOfKind 51 = .ok (.iload_n 2, 1) := by decide +kernel
theorem dX11_fitOfKind_52 : decode cX11_fitOfKind 52 = .ok (.invokespecial 357, 3) := by decide +kernel
theorem dX11_fitOfKind_55 : decode cX11_fitOfKind 55 = .ok (.areturn, 1) := by decide +kernel
theorem dX11_fitOfKind_56 : decode cX11_fitOfKind 56 = .ok (.new 358, 3) := by decide +kernel
theorem dX11_fitOfKind_59 : decode cX11_fitOfKind 59 = .ok (.dup, 1) := by decide +kernel
theorem dX11_fitOfKind_60 : decode cX11_fitOfKind 60 = .ok (.iload_n 1, 1) := by decide +kernel
theorem dX11_fitOfKind_61 : decode cX11_fitOfKind 61 = .ok (.iload_n 2, 1) := by decide +kernel
theorem dX11_fitOfKind_62 : decode cX11_fitOfKind 62 = .ok (.invokespecial 360, 3) := by decide +kernel
theorem dX11_fitOfKind_65 : decode cX11_fitOfKind 65 = .ok (.areturn, 1) := by decide +kernel
theorem dX11_fitOfKind_66 : decode cX11_fitOfKind 66 = .ok (.new 361, 3) := by decide +kernel
theorem dX11_fitOfKind_69 : decode cX11_fitOfKind 69 = .ok (.dup, 1) := by decide +kernel
theorem dX11_fitOfKind_70 : decode cX11_fitOfKind 70 = .ok (.iload_n 1, 1) := by decide +kernel
theorem dX11_fitOfKind_71 : decode cX11_fitOfKind 71 = .ok (.iload_n 2, 1) := by decide +kernel
theorem dX11_fitOfKind_72 : decode cX11_fitOfKind 72 = .ok (.invokespecial 363, 3) := by decide +kernel
theorem dX11_fitOfKind_75 : decode cX11_fitOfKind 75 = .ok (.areturn, 1) := by decide +kernel
theorem dX11_fitOfKind_76 : decode cX11_fitOfKind 76 = .ok (.new 364, 3) := by decide +kernel
theorem dX11_fitOfKind_79 : decode cX11_fitOfKind 79 = .ok (.dup, 1) := by decide +kernel
theorem dX11_fitOfKind_80 : decode cX11_fitOfKind 80 = .ok (.iload_n 1, 1) := by decide +kernel
theorem dX11_fitOfKind_81 : decode cX11_fitOfKind 81 = .ok (.iload_n 2, 1) := by decide +kernel
theorem dX11_fitOfKind_82 : decode cX11_fitOfKind 82 = .ok (.invokespecial 366, 3) := by decide +kernel
theorem dX11_fitOfKind_85 : decode cX11_fitOfKind 85 = .ok (.areturn, 1) := by decide +kernel
theorem dX11_fitOfKind_86 : decode cX11_fitOfKind 86 = .ok (.new 338, 3) := by decide +kernel
theorem dX11_fitOfKind_89 : decode cX11_fitOfKind 89 = .ok (.dup, 1) := by decide +kernel
theorem dX11_fitOfKind_90 : decode cX11_fitOfKind 90 = .ok (.iload_n 1, 1) := by decide +kernel
theorem dX11_fitOfKind_91 : decode cX11_fitOfKind 91 = .ok (.iload_n 2, 1) := by decide +kernel
theorem dX11_fitOfKind_92 : decode cX11_fitOfKind 92 = .ok (.invokespecial 367, 3) := by decide +kernel
theorem dX11_fitOfKind_95 : decode cX11_fitOfKind 95 = .ok (.areturn, 1) := by decide +kernel
set_option maxRecDepth 20000 in
theorem ggX11_inLeastTerms_X11_commonDivisor : GoodIn wsX11_inLeastTerms wsX11_commonDivisor := goodIn_r _ [9] (by decide +kernel) (by decide +kernel)
set_option maxRecDepth 20000 in
theorem gX11_inLeastTerms_X11_commonDivisor : GoodIn wsX11_inLeastTerms (va_wsS RX11 374 yX11_commonDivisor wsX11_commonDivisor) := goodIn_app (goodIn_of _ (by decide +kernel)) ggX11_inLeastTerms_X11_commonDivisor
theorem dX11_inLeastTerms_0 : decode cX11_inLeastTerms 0 = .ok (.lload_n 0, 1) := by decide +kernel
theorem dX11_inLeastTerms_1 : decode cX11_inLeastTerms 1 = .ok (.invokestatic 368, 3) := by decide +kernel
theorem dX11_inLeastTerms_4 : decode cX11_inLeastTerms 4 = .ok (.lload_n 2, 1) := by decide +kernel
theorem dX11_inLeastTerms_5 : decode cX11_inLeastTerms 5 = .ok (.invokestatic 368, 3) := by decide +kernel
theorem dX11_inLeastTerms_8 : decode cX11_inLeastTerms 8 = .ok (.invokestatic 374, 3) := by decide +kernel
theorem dX11_inLeastTerms_11 : decode cX11_inLeastTerms 11 = .ok (.lstore 5, 2) := by decide +kernel
theorem dX11_inLeastTerms_13 : decode cX11_inLeastTerms 13 = .ok (.lload 5, 2) := by decide +kernel
theorem dX11_inLeastTerms_15 : decode cX11_inLeastTerms 15 = .ok (.lconst 0, 1) := by decide +kernel
theorem dX11_inLeastTerms_16 : decode cX11_inLeastTerms 16 = .ok (.lcmp, 1) := by decide +kernel
theorem dX11_inLeastTerms_17 : decode cX11_inLeastTerms 17 = .ok (.ifCond .ne 7, 3) := by decide +kernel
theorem dX11_inLeastTerms_20 : decode cX11_inLeastTerms 20 = .ok (.ldc2_w 114, 3) := by decide +kernel
theorem dX11_inLeastTerms_23 : decode cX11_inLeastTerms 23 = .ok (.lreturn, 1) := by decide +kernel
theorem dX11_inLeastTerms_24 : decode cX11_inLeastTerms 24 = .ok (.iload 4, 2) := by decide +kernel
theorem dX11_inLeastTerms_26 : decode cX11_inLeastTerms 26 = .ok (.ifCond .ne 7, 3) := by decide +kernel
theorem dX11_inLeastTerms_29 : decode cX11_inLeastTerms 29 = .ok (.lload_n 0, 1) := by decide +kernel
theorem dX11_inLeastTerms_30 : decode cX11_inLeastTerms 30 = .ok (.goto 4, 3) := by decide +kernel
theorem dX11_inLeastTerms_33 : decode cX11_inLeastTerms 33 = .ok (.lload_n 2, 1) := by decide +kernel
theorem dX11_inLeastTerms_34 : decode cX11_inLeastTerms 34 = .ok (.lload 5, 2) := by decide +kernel
theorem dX11_inLeastTerms_36 : decode cX11_inLeastTerms 36 = .ok (.ldiv, 1) := by decide +kernel
theorem dX11_inLeastTerms_37 : decode cX11_inLeastTerms 37 = .ok (.lreturn, 1) := by decide +kernel
theorem dX11_commonDivisor_0 : decode cX11_commonDivisor 0 = .ok (.lload_n 0, 1) := by decide +kernel
theorem dX11_commonDivisor_1 : decode cX11_commonDivisor 1 = .ok (.lstore 4, 2) := by decide +kernel
theorem dX11_commonDivisor_3 : decode cX11_commonDivisor 3 = .ok (.lload_n 2, 1) := by decide +kernel
theorem dX11_commonDivisor_4 : decode cX11_commonDivisor 4 = .ok (.lstore 6, 2) := by decide +kernel
theorem dX11_commonDivisor_6 : decode cX11_commonDivisor 6 = .ok (.iconst 0, 1) := by decide +kernel
theorem dX11_commonDivisor_7 : decode cX11_commonDivisor 7 = .ok (.istore 8, 2) := by decide +kernel
theorem dX11_commonDivisor_9 : decode cX11_commonDivisor 9 = .ok (.iload 8, 2) := by decide +kernel
theorem dX11_commonDivisor_11 : decode cX11_commonDivisor 11 = .ok (.bipush 100, 2) := by decide +kernel
theorem dX11_commonDivisor_13 : decode cX11_commonDivisor 13 = .ok (.if_icmp .ge 31, 3) := by decide +kernel
theorem dX11_commonDivisor_16 : decode cX11_commonDivisor 16 = .ok (.lload 6, 2) := by decide +kernel
theorem dX11_commonDivisor_18 : decode cX11_commonDivisor 18 = .ok (.lconst 0, 1) := by decide +kernel
theorem dX11_commonDivisor_19 : decode cX11_commonDivisor 19 = .ok (.lcmp, 1) := by decide +kernel
theorem dX11_commonDivisor_20 : decode cX11_commonDivisor 20 = .ok (.ifCond .eq 24, 3) := by decide +kernel
theorem dX11_commonDivisor_23 : decode cX11_commonDivisor 23 = .ok (.lload 4, 2) := by decide +kernel
theorem dX11_commonDivisor_25 : decode cX11_commonDivisor 25 = .ok (.lload 6, 2) := by decide +kernel
theorem dX11_commonDivisor_27 : decode cX11_commonDivisor 27 = .ok (.lrem, 1) := by decide +kernel
theorem dX11_commonDivisor_28 : decode cX11_commonDivisor 28 = .ok (.lstore 9, 2) := by decide +kernel
theorem dX11_commonDivisor_30 : decode cX11_commonDivisor 30 = .ok (.lload 6, 2) := by decide +kernel
theorem dX11_commonDivisor_32 : decode cX11_commonDivisor 32 = .ok (.lstore 4, 2) := by decide +kernel
theorem dX11_commonDivisor_34 : decode cX11_commonDivisor 34 = .ok (.lload 9, 2) := by decide +kernel
theorem dX11_commonDivisor_36 : decode cX11_commonDivisor 36 = .ok (.lstore 6, 2) := by decide +kernel
theorem dX11_commonDivisor_38 : decode cX11_commonDivisor 38 = .ok (.iinc 8 1, 3) := by decide +kernel
theorem dX11_commonDivisor_41 : decode cX11_commonDivisor 41 = .ok (.goto (-32), 3) := by decide +kernel
theorem dX11_commonDivisor_44 : decode cX11_commonDivisor 44 = .ok (.lload 4, 2) := by decide +kernel
theorem dX11_commonDivisor_46 : decode cX11_commonDivisor 46 = .ok (.lreturn, 1) := by decide +kernel

theorem dX7_init_0 : decode cX7_init 0 = .ok (.aload_n 0, 1) := by decide +kernel
theorem dX7_init_1 : decode cX7_init 1 = .ok (.invokespecial 3, 3) := by decide +kernel
theorem dX7_init_4 : decode cX7_init 4 = .ok (.aload_n 0, 1) := by decide +kernel
theorem dX7_init_5 : decode cX7_init 5 = .ok (.iconst 4, 1) := by decide +kernel
theorem dX7_init_6 : decode cX7_init 6 = .ok (.newarray .int, 2) := by decide +kernel
theorem dX7_init_8 : decode cX7_init 8 = .ok (.putfield 9, 3) := by decide +kernel
theorem dX7_init_11 : decode cX7_init 11 = .ok (.aload_n 0, 1) := by decide +kernel
theorem dX7_init_12 : decode cX7_init 12 = .ok (.iconst 4, 1) := by decide +kernel
theorem dX7_init_13 : decode cX7_init 13 = .ok (.newarray .long, 2) := by decide +kernel
theorem dX7_init_15 : decode cX7_init 15 = .ok (.putfield 15, 3) := by decide +kernel
theorem dX7_init_18 : decode cX7_init 18 = .ok (.aload_n 0, 1) := by decide +kernel
theorem dX7_init_19 : decode cX7_init 19 = .ok (.iconst 4, 1) := by decide +kernel
theorem dX7_init_20 : decode cX7_init 20 = .ok (.newarray .long, 2) := by decide +kernel
theorem dX7_init_22 : decode cX7_init 22 = .ok (.putfield 19, 3) := by decide +kernel
theorem dX7_init_25 : decode cX7_init 25 = .ok (.aload_n 0, 1) := by decide +kernel
theorem dX7_init_26 : decode cX7_init 26 = .ok (.lconst 1, 1) := by decide +kernel
theorem dX7_init_27 : decode cX7_init 27 = .ok (.putfield 22, 3) := by decide +kernel
theorem dX7_init_30 : decode cX7_init 30 = .ok (.aload_n 0, 1) := by decide +kernel
theorem dX7_init_31 : decode cX7_init 31 = .ok (.lconst 1, 1) := by decide +kernel
theorem dX7_init_32 : decode cX7_init 32 = .ok (.putfield 26, 3) := by decide +kernel
theorem dX7_init_35 : decode cX7_init 35 = .ok (.aload_n 0, 1) := by decide +kernel
theorem dX7_init_36 : decode cX7_init 36 = .ok (.aload_n 1, 1) := by decide +kernel
theorem dX7_init_37 : decode cX7_init 37 = .ok (.putfield 29, 3) := by decide +kernel
theorem dX7_init_40 : decode cX7_init 40 = .ok (.return_, 1) := by decide +kernel
set_option maxRecDepth 20000 in
theorem ggX7_weigh_X7_lay : GoodIn wsX7_weigh wsX7_lay := goodIn_r _ [10, 11, 1, 12, 13, 45, 46, 47, 48, 49, 50, 51, 52, 53, 54, 55, 56, 57, 58, 59, 60, 61, 62, 63, 64, 65, 66, 67] (by decide +kernel) (by decide +kernel)
set_option maxRecDepth 20000 in
theorem gX7_weigh_X7_lay : GoodIn wsX7_weigh (wsV RX7 33 RX7 yX7_lay wsX7_lay) := goodIn_app (goodIn_of _ (by decide +kernel)) ggX7_weigh_X7_lay
set_option maxRecDepth 20000 in
theorem ggX7_weigh_X7_isMade : GoodIn wsX7_weigh wsX7_isMade := goodIn_r _ [17, 11, 45, 46, 47, 48, 49, 50, 51, 52, 53, 54, 55, 56, 57, 58] (by decide +kernel) (by decide +kernel)
set_option maxRecDepth 20000 in
theorem gX7_weigh_X7_isMade : GoodIn wsX7_weigh (wsV RX7 43 RX7 yX7_isMade wsX7_isMade) := goodIn_app (goodIn_of _ (by decide +kernel)) ggX7_weigh_X7_isMade
set_option maxRecDepth 20000 in
theorem ggX7_weigh_X7_payMakers : GoodIn wsX7_weigh wsX7_payMakers := goodIn_r _ [21, 1, 12, 13, 22, 23, 3, 4, 5, 45, 46, 47, 48, 49, 50, 51, 52, 53, 54, 55, 56, 57, 58, 59, 60, 61, 62, 63, 64, 65, 66, 67] (by decide +kernel) (by decide +kernel)
set_option maxRecDepth 20000 in
theorem gX7_weigh_X7_payMakers : GoodIn wsX7_weigh (wsV RX7 47 RX7 yX7_payMakers wsX7_payMakers) := goodIn_app (goodIn_of _ (by decide +kernel)) ggX7_weigh_X7_payMakers
set_option maxRecDepth 20000 in
theorem ggX7_weigh_X7_thoughtWorth : GoodIn wsX7_weigh wsX7_thoughtWorth := goodIn_r _ [27, 1, 28, 29, 23, 30, 31, 32, 33, 34, 35, 36, 37, 38, 39, 40, 41, 42, 43, 44, 45, 46, 47, 48, 49, 50, 51, 52, 53, 54, 55, 56, 57, 58, 59, 60, 61, 62, 63, 64, 65, 66, 67] (by decide +kernel) (by decide +kernel)
set_option maxRecDepth 20000 in
theorem gX7_weigh_X7_thoughtWorth : GoodIn wsX7_weigh (wsV RX7 50 RX7 yX7_thoughtWorth wsX7_thoughtWorth) := goodIn_app (goodIn_of _ (by decide +kernel)) ggX7_weigh_X7_thoughtWorth
theorem dX7_weigh_0 : decode cX7_weigh 0 = .ok (.aload_n 0, 1) := by decide +kernel
theorem dX7_weigh_1 : decode cX7_weigh 1 = .ok (.iload_n 1, 1) := by decide +kernel
theorem dX7_weigh_2 : decode cX7_weigh 2 = .ok (.invokevirtual 33, 3) := by decide +kernel
theorem dX7_weigh_5 : decode cX7_weigh 5 = .ok (.iconst 0, 1) := by decide +kernel
theorem dX7_weigh_6 : decode cX7_weigh 6 = .ok (.istore_n 2, 1) := by decide +kernel
theorem dX7_weigh_7 : decode cX7_weigh 7 = .ok (.iload_n 2, 1) := by decide +kernel
theorem dX7_weigh_8 : decode cX7_weigh 8 = .ok (.aload_n 0, 1) := by decide +kernel
theorem dX7_weigh_9 : decode cX7_weigh 9 = .ok (.getfield 29, 3) := by decide +kernel
theorem dX7_weigh_12 : decode cX7_weigh 12 = .ok (.getfield 37, 3) := by decide +kernel
theorem dX7_weigh_15 : decode cX7_weigh 15 = .ok (.if_icmp .ge 54, 3) := by decide +kernel
theorem dX7_weigh_18 : decode cX7_weigh 18 = .ok (.aload_n 0, 1) := by decide +kernel
theorem dX7_weigh_19 : decode cX7_weigh 19 = .ok (.iload_n 2, 1) := by decide +kernel
theorem dX7_weigh_20 : decode cX7_weigh 20 = .ok (.invokevirtual 43, 3) := by decide +kernel
theorem dX7_weigh_23 : decode cX7_weigh 23 = .ok (.ifCond .eq 11, 3) := by decide +kernel
theorem dX7_weigh_26 : decode cX7_weigh 26 = .ok (.aload_n 0, 1) := by decide +kernel
theorem dX7_weigh_27 : decode cX7_weigh 27 = .ok (.iload_n 2, 1) := by decide +kernel
theorem dX7_weigh_28 : decode cX7_weigh 28 = .ok (.invokevirtual 47, 3) := by decide +kernel
theorem dX7_weigh_31 : decode cX7_weigh 31 = .ok (.goto 32, 3) := by decide +kernel
theorem dX7_weigh_34 : decode cX7_weigh 34 = .ok (.aload_n 0, 1) := by decide +kernel
theorem dX7_weigh_35 : decode cX7_weigh 35 = .ok (.getfield 15, 3) := by decide +kernel
theorem dX7_weigh_38 : decode cX7_weigh 38 = .ok (.iload_n 2, 1) := by decide +kernel
theorem dX7_weigh_39 : decode cX7_weigh 39 = .ok (.aload_n 0, 1) := by decide +kernel
theorem dX7_weigh_40 : decode cX7_weigh 40 = .ok (.iload_n 2, 1) := by decide +kernel
theorem dX7_weigh_41 : decode cX7_weigh 41 = .ok (.invokevirtual 50, 3) := by decide +kernel
theorem dX7_weigh_44 : decode cX7_weigh 44 = .ok (.aload_n 0, 1) := by decide +kernel
theorem dX7_weigh_45 : decode cX7_weigh 45 = .ok (.getfield 29, 3) := by decide +kernel
theorem dX7_weigh_48 : decode cX7_weigh 48 = .ok (.getfield 54, 3) := by decide +kernel
theorem dX7_weigh_51 : decode cX7_weigh 51 = .ok (.iload_n 2, 1) := by decide +kernel
theorem dX7_weigh_52 : decode cX7_weigh 52 = .ok (.iaload, 1) := by decide +kernel
theorem dX7_weigh_53 : decode cX7_weigh 53 = .ok (.iadd, 1) := by decide +kernel
theorem dX7_weigh_54 : decode cX7_weigh 54 = .ok (.i2l, 1) := by decide +kernel
theorem dX7_weigh_55 : decode cX7_weigh 55 = .ok (.lastore, 1) := by decide +kernel
theorem dX7_weigh_56 : decode cX7_weigh 56 = .ok (.aload_n 0, 1) := by decide +kernel
theorem dX7_weigh_57 : decode cX7_weigh 57 = .ok (.getfield 19, 3) := by decide +kernel
theorem dX7_weigh_60 : decode cX7_weigh 60 = .ok (.iload_n 2, 1) := by decide +kernel
theorem dX7_weigh_61 : decode cX7_weigh 61 = .ok (.lconst 1, 1) := by decide +kernel
theorem dX7_weigh_62 : decode cX7_weigh 62 = .ok (.lastore, 1) := by decide +kernel
theorem dX7_weigh_63 : decode cX7_weigh 63 = .ok (.iinc 2 1, 3) := by decide +kernel
theorem dX7_weigh_66 : decode cX7_weigh 66 = .ok (.goto (-59), 3) := by decide +kernel
theorem dX7_weigh_69 : decode cX7_weigh 69 = .ok (.return_, 1) := by decide +kernel
theorem dX7_lay_0 : decode cX7_lay 0 = .ok (.iload_n 1, 1) := by decide +kernel
theorem dX7_lay_1 : decode cX7_lay 1 = .ok (.istore_n 2, 1) := by decide +kernel
theorem dX7_lay_2 : decode cX7_lay 2 = .ok (.aload_n 0, 1) := by decide +kernel
theorem dX7_lay_3 : decode cX7_lay 3 = .ok (.iconst 0, 1) := by decide +kernel
theorem dX7_lay_4 : decode cX7_lay 4 = .ok (.putfield 57, 3) := by decide +kernel
theorem dX7_lay_7 : decode cX7_lay 7 = .ok (.iconst 0, 1) := by decide +kernel
theorem dX7_lay_8 : decode cX7_lay 8 = .ok (.istore_n 3, 1) := by decide +kernel
theorem dX7_lay_9 : decode cX7_lay 9 = .ok (.iload_n 3, 1) := by decide +kernel
theorem dX7_lay_10 : decode cX7_lay 10 = .ok (.aload_n 0, 1) := by decide +kernel
theorem dX7_lay_11 : decode cX7_lay 11 = .ok (.getfield 29, 3) := by decide +kernel
theorem dX7_lay_14 : decode cX7_lay 14 = .ok (.getfield 60, 3) := by decide +kernel
theorem dX7_lay_17 : decode cX7_lay 17 = .ok (.if_icmp .ge 49, 3) := by decide +kernel
theorem dX7_lay_20 : decode cX7_lay 20 = .ok (.aload_n 0, 1) := by decide +kernel
theorem dX7_lay_21 : decode cX7_lay 21 = .ok (.getfield 9, 3) := by decide +kernel
theorem dX7_lay_24 : decode cX7_lay 24 = .ok (.iload_n 3, 1) := by decide +kernel
theorem dX7_lay_25 : decode cX7_lay 25 = .ok (.iload_n 2, 1) := by decide +kernel
theorem dX7_lay_26 : decode cX7_lay 26 = .ok (.iconst 5, 1) := by decide +kernel
theorem dX7_lay_27 : decode cX7_lay 27 = .ok (.irem, 1) := by decide +kernel
theorem dX7_lay_28 : decode cX7_lay 28 = .ok (.iastore, 1) := by decide +kernel
theorem dX7_lay_29 : decode cX7_lay 29 = .ok (.iload_n 2, 1) := by decide +kernel
theorem dX7_lay_30 : decode cX7_lay 30 = .ok (.iconst 5, 1) := by decide +kernel
theorem dX7_lay_31 : decode cX7_lay 31 = .ok (.idiv, 1) := by decide +kernel
theorem dX7_lay_32 : decode cX7_lay 32 = .ok (.istore_n 2, 1) := by decide +kernel
theorem dX7_lay_33 : decode cX7_lay 33 = .ok (.aload_n 0, 1) := by decide +kernel
theorem dX7_lay_34 : decode cX7_lay 34 = .ok (.getfield 9, 3) := by decide +kernel
theorem dX7_lay_37 : decode cX7_lay 37 = .ok (.iload_n 3, 1) := by decide +kernel
theorem dX7_lay_38 : decode cX7_lay 38 = .ok (.iaload, 1) := by decide +kernel
theorem dX7_lay_39 : decode cX7_lay 39 = .ok (.iconst 4, 1) := by decide +kernel
theorem dX7_lay_40 : decode cX7_lay 40 = .ok (.if_icmp .eq 20, 3) := by decide +kernel
theorem dX7_lay_43 : decode cX7_lay 43 = .ok (.aload_n 0, 1) := by decide +kernel
theorem dX7_lay_44 : decode cX7_lay 44 = .ok (.dup, 1) := by decide +kernel
theorem dX7_lay_45 : decode cX7_lay 45 = .ok (.getfield 57, 3) := by decide +kernel
theorem dX7_lay_48 : decode cX7_lay 48 = .ok (.iconst 1, 1) := by decide +kernel
theorem dX7_lay_49 : decode cX7_lay 49 = .ok (.aload_n 0, 1) := by decide +kernel
theorem dX7_lay_50 : decode cX7_lay 50 = .ok (.getfield 9, 3) := by decide +kernel
theorem dX7_lay_53 : decode cX7_lay 53 = .ok (.iload_n 3, 1) := by decide +kernel
theorem dX7_lay_54 : decode cX7_lay 54 = .ok (.iaload, 1) := by decide +kernel
theorem dX7_lay_55 : decode cX7_lay 55 = .ok (.ishl, 1) := by decide +kernel
theorem dX7_lay_56 : decode cX7_lay 56 = .ok (.ior, 1) := by decide +kernel
theorem dX7_lay_57 : decode cX7_lay 57 = .ok (.putfield 57, 3) := by decide +kernel
theorem dX7_lay_60 : decode cX7_lay 60 = .ok (.iinc 3 1, 3) := by decide +kernel
theorem dX7_lay_63 : decode cX7_lay 63 = .ok (.goto (-54), 3) := by decide +kernel
theorem dX7_lay_66 : decode cX7_lay 66 = .ok (.return_, 1) := by decide +kernel
theorem dX7_isMade_0 : decode cX7_isMade 0 = .ok (.aload_n 0, 1) := by decide +kernel
theorem dX7_isMade_1 : decode cX7_isMade 1 = .ok (.getfield 57, 3) := by decide +kernel
theorem dX7_isMade_4 : decode cX7_isMade 4 = .ok (.iload_n 1, 1) := by decide +kernel
theorem dX7_isMade_5 : decode cX7_isMade 5 = .ok (.ishr, 1) := by decide +kernel
theorem dX7_isMade_6 : decode cX7_isMade 6 = .ok (.iconst 1, 1) := by decide +kernel
theorem dX7_isMade_7 : decode cX7_isMade 7 = .ok (.iand, 1) := by decide +kernel
theorem dX7_isMade_8 : decode cX7_isMade 8 = .ok (.iconst 1, 1) := by decide +kernel
theorem dX7_isMade_9 : decode cX7_isMade 9 = .ok (.if_icmp .ne 7, 3) := by decide +kernel
theorem dX7_isMade_12 : decode cX7_isMade 12 = .ok (.iconst 1, 1) := by decide +kernel
theorem dX7_isMade_13 : decode cX7_isMade 13 = .ok (.goto 4, 3) := by decide +kernel
theorem dX7_isMade_16 : decode cX7_isMade 16 = .ok (.iconst 0, 1) := by decide +kernel
theorem dX7_isMade_17 : decode cX7_isMade 17 = .ok (.ireturn, 1) := by decide +kernel
theorem dX7_payMakers_0 : decode cX7_payMakers 0 = .ok (.lconst 0, 1) := by decide +kernel
theorem dX7_payMakers_1 : decode cX7_payMakers 1 = .ok (.lstore_n 2, 1) := by decide +kernel
theorem dX7_payMakers_2 : decode cX7_payMakers 2 = .ok (.lconst 0, 1) := by decide +kernel
theorem dX7_payMakers_3 : decode cX7_payMakers 3 = .ok (.lstore 4, 2) := by decide +kernel
theorem dX7_payMakers_5 : decode cX7_payMakers 5 = .ok (.iconst 0, 1) := by decide +kernel
theorem dX7_payMakers_6 : decode cX7_payMakers 6 = .ok (.istore 6, 2) := by decide +kernel
theorem dX7_payMakers_8 : decode cX7_payMakers 8 = .ok (.iload 6, 2) := by decide +kernel
theorem dX7_payMakers_10 : decode cX7_payMakers 10 = .ok (.aload_n 0, 1) := by decide +kernel
theorem dX7_payMakers_11 : decode cX7_payMakers 11 = .ok (.getfield 29, 3) := by decide +kernel
theorem dX7_payMakers_14 : decode cX7_payMakers 14 = .ok (.getfield 60, 3) := by decide +kernel
theorem dX7_payMakers_17 : decode cX7_payMakers 17 = .ok (.if_icmp .ge 61, 3) := by decide +kernel
theorem dX7_payMakers_20 : decode cX7_payMakers 20 = .ok (.aload_n 0, 1) := by decide +kernel
theorem dX7_payMakers_21 : decode cX7_payMakers 21 = .ok (.getfield 9, 3) := by decide +kernel
theorem dX7_payMakers_24 : decode cX7_payMakers 24 = .ok (.iload 6, 2) := by decide +kernel
theorem dX7_payMakers_26 : decode cX7_payMakers 26 = .ok (.iaload, 1) := by decide +kernel
theorem dX7_payMakers_27 : decode cX7_payMakers 27 = .ok (.iload_n 1, 1) := by decide +kernel
theorem dX7_payMakers_28 : decode cX7_payMakers 28 = .ok (.if_icmp .ne 44, 3) := by decide +kernel
theorem dX7_payMakers_31 : decode cX7_payMakers 31 = .ok (.lload_n 2, 1) := by decide +kernel
theorem dX7_payMakers_32 : decode cX7_payMakers 32 = .ok (.aload_n 0, 1) := by decide +kernel
theorem dX7_payMakers_33 : decode cX7_payMakers 33 = .ok (.getfield 29, 3) := by decide +kernel
theorem dX7_payMakers_36 : decode cX7_payMakers 36 = .ok (.getfield 63, 3) := by decide +kernel
theorem dX7_payMakers_39 : decode cX7_payMakers 39 = .ok (.iload 6, 2) := by decide +kernel
theorem dX7_payMakers_41 : decode cX7_payMakers 41 = .ok (.iaload, 1) := by decide +kernel
theorem dX7_payMakers_42 : decode cX7_payMakers 42 = .ok (.i2l, 1) := by decide +kernel
theorem dX7_payMakers_43 : decode cX7_payMakers 43 = .ok (.ladd, 1) := by decide +kernel
theorem dX7_payMakers_44 : decode cX7_payMakers 44 = .ok (.lstore_n 2, 1) := by decide +kernel
theorem dX7_payMakers_45 : decode cX7_payMakers 45 = .ok (.lload 4, 2) := by decide +kernel
theorem dX7_payMakers_47 : decode cX7_payMakers 47 = .ok (.aload_n 0, 1) := by decide +kernel
theorem dX7_payMakers_48 : decode cX7_payMakers 48 = .ok (.getfield 29, 3) := by decide +kernel
theorem dX7_payMakers_51 : decode cX7_payMakers 51 = .ok (.getfield 63, 3) := by decide +kernel
theorem dX7_payMakers_54 : decode cX7_payMakers 54 = .ok (.iload 6, 2) := by decide +kernel
theorem dX7_payMakers_56 : decode cX7_payMakers 56 = .ok (.iaload, 1) := by decide +kernel
theorem dX7_payMakers_57 : decode cX7_payMakers 57 = .ok (.aload_n 0, 1) := by decide +kernel
theorem dX7_payMakers_58 : decode cX7_payMakers 58 = .ok (.getfield 29, 3) := by decide +kernel
theorem dX7_payMakers_61 : decode cX7_payMakers 61 = .ok (.getfield 66, 3) := by decide +kernel
theorem dX7_payMakers_64 : decode cX7_payMakers 64 = .ok (.iload 6, 2) := by decide +kernel
theorem dX7_payMakers_66 : decode cX7_payMakers 66 = .ok (.iaload, 1) := by decide +kernel
theorem dX7_payMakers_67 : decode cX7_payMakers 67 = .ok (.imul, 1) := by decide +kernel
theorem dX7_payMakers_68 : decode cX7_payMakers 68 = .ok (.i2l, 1) := by decide +kernel
theorem dX7_payMakers_69 : decode cX7_payMakers 69 = .ok (.ladd, 1) := by decide +kernel
theorem dX7_payMakers_70 : decode cX7_payMakers 70 = .ok (.lstore 4, 2) := by decide +kernel
theorem dX7_payMakers_72 : decode cX7_payMakers 72 = .ok (.iinc 6 1, 3) := by decide +kernel
theorem dX7_payMakers_75 : decode cX7_payMakers 75 = .ok (.goto (-67), 3) := by decide +kernel
theorem dX7_payMakers_78 : decode cX7_payMakers 78 = .ok (.aload_n 0, 1) := by decide +kernel
theorem dX7_payMakers_79 : decode cX7_payMakers 79 = .ok (.getfield 15, 3) := by decide +kernel
theorem dX7_payMakers_82 : decode cX7_payMakers 82 = .ok (.iload_n 1, 1) := by decide +kernel
theorem dX7_payMakers_83 : decode cX7_payMakers 83 = .ok (.lload 4, 2) := by decide +kernel
theorem dX7_payMakers_85 : decode cX7_payMakers 85 = .ok (.lload_n 2, 1) := by decide +kernel
theorem dX7_payMakers_86 : decode cX7_payMakers 86 = .ok (.aload_n 0, 1) := by decide +kernel
theorem dX7_payMakers_87 : decode cX7_payMakers 87 = .ok (.getfield 29, 3) := by decide +kernel
theorem dX7_payMakers_90 : decode cX7_payMakers 90 = .ok (.getfield 54, 3) := by decide +kernel
theorem dX7_payMakers_93 : decode cX7_payMakers 93 = .ok (.iload_n 1, 1) := by decide +kernel
theorem dX7_payMakers_94 : decode cX7_payMakers 94 = .ok (.iaload, 1) := by decide +kernel
theorem dX7_payMakers_95 : decode cX7_payMakers 95 = .ok (.i2l, 1) := by decide +kernel
theorem dX7_payMakers_96 : decode cX7_payMakers 96 = .ok (.lmul, 1) := by decide +kernel
theorem dX7_payMakers_97 : decode cX7_payMakers 97 = .ok (.ladd, 1) := by decide +kernel
theorem dX7_payMakers_98 : decode cX7_payMakers 98 = .ok (.lastore, 1) := by decide +kernel
theorem dX7_payMakers_99 : decode cX7_payMakers 99 = .ok (.aload_n 0, 1) := by decide +kernel
theorem dX7_payMakers_100 : decode cX7_payMakers 100 = .ok (.getfield 19, 3) := by decide +kernel
theorem dX7_payMakers_103 : decode cX7_payMakers 103 = .ok (.iload_n 1, 1) := by decide +kernel
theorem dX7_payMakers_104 : decode cX7_payMakers 104 = .ok (.lload_n 2, 1) := by decide +kernel
theorem dX7_payMakers_105 : decode cX7_payMakers 105 = .ok (.lastore, 1) := by decide +kernel
theorem dX7_payMakers_106 : decode cX7_payMakers 106 = .ok (.return_, 1) := by decide +kernel
set_option maxRecDepth 20000 in
theorem ggX7_thoughtWorth_X4_hasSort : GoodIn wsX7_thoughtWorth wsX4_hasSort := goodIn_r _ [9, 10, 34, 35, 36, 37, 38, 39, 40, 41, 42] (by decide +kernel) (by decide +kernel)
set_option maxRecDepth 20000 in
theorem gX7_thoughtWorth_X4_hasSort : GoodIn wsX7_thoughtWorth (wsV RX7 76 RX4 yX4_hasSort wsX4_hasSort) := goodIn_app (goodIn_of _ (by decide +kernel)) ggX7_thoughtWorth_X4_hasSort
set_option maxRecDepth 20000 in
theorem ggX7_thoughtWorth_X4_leastWorth : GoodIn wsX7_thoughtWorth wsX4_leastWorth := goodIn_r _ [14, 10, 15, 16, 17, 18, 19, 34, 35, 36, 37, 38, 39, 40, 41, 42] (by decide +kernel) (by decide +kernel)
set_option maxRecDepth 20000 in
theorem gX7_thoughtWorth_X4_leastWorth : GoodIn wsX7_thoughtWorth (wsV RX7 79 RX4 yX4_leastWorth wsX4_leastWorth) := goodIn_app (goodIn_of _ (by decide +kernel)) ggX7_thoughtWorth_X4_leastWorth
theorem dX7_thoughtWorth_0 : decode cX7_thoughtWorth 0 = .ok (.aload_n 0, 1) := by decide +kernel
theorem dX7_thoughtWorth_1 : decode cX7_thoughtWorth 1 = .ok (.getfield 29, 3) := by decide +kernel
theorem dX7_thoughtWorth_4 : decode cX7_thoughtWorth 4 = .ok (.getfield 69, 3) := by decide +kernel
theorem dX7_thoughtWorth_7 : decode cX7_thoughtWorth 7 = .ok (.iload_n 1, 1) := by decide +kernel
theorem dX7_thoughtWorth_8 : decode cX7_thoughtWorth 8 = .ok (.iaload, 1) := by decide +kernel
theorem dX7_thoughtWorth_9 : decode cX7_thoughtWorth 9 = .ok (.istore_n 2, 1) := by decide +kernel
theorem dX7_thoughtWorth_10 : decode cX7_thoughtWorth 10 = .ok (.aload_n 0, 1) := by decide +kernel
theorem dX7_thoughtWorth_11 : decode cX7_thoughtWorth 11 = .ok (.getfield 72, 3) := by decide +kernel
theorem dX7_thoughtWorth_14 : decode cX7_thoughtWorth 14 = .ok (.ifCond .ne 18, 3) := by decide +kernel
theorem dX7_thoughtWorth_17 : decode cX7_thoughtWorth 17 = .ok (.aload_n 0, 1) := by decide +kernel
theorem dX7_thoughtWorth_18 : decode cX7_thoughtWorth 18 = .ok (.getfield 29, 3) := by decide +kernel
theorem dX7_thoughtWorth_21 : decode cX7_thoughtWorth 21 = .ok (.iload_n 2, 1) := by decide +kernel
theorem dX7_thoughtWorth_22 : decode cX7_thoughtWorth 22 = .ok (.invokevirtual 76, 3) := by decide +kernel
theorem dX7_thoughtWorth_25 : decode cX7_thoughtWorth 25 = .ok (.ifCond .eq 7, 3) := by decide +kernel
theorem dX7_thoughtWorth_28 : decode cX7_thoughtWorth 28 = .ok (.iconst 1, 1) := by decide +kernel
theorem dX7_thoughtWorth_29 : decode cX7_thoughtWorth 29 = .ok (.goto 4, 3) := by decide +kernel
theorem dX7_thoughtWorth_32 : decode cX7_thoughtWorth 32 = .ok (.iconst 0, 1) := by decide +kernel
theorem dX7_thoughtWorth_33 : decode cX7_thoughtWorth 33 = .ok (.istore_n 3, 1) := by decide +kernel
theorem dX7_thoughtWorth_34 : decode cX7_thoughtWorth 34 = .ok (.iload_n 3, 1) := by decide +kernel
theorem dX7_thoughtWorth_35 : decode cX7_thoughtWorth 35 = .ok (.ifCond .eq 15, 3) := by decide +kernel
theorem dX7_thoughtWorth_38 : decode cX7_thoughtWorth 38 = .ok (.aload_n 0, 1) := by decide +kernel
theorem dX7_thoughtWorth_39 : decode cX7_thoughtWorth 39 = .ok (.getfield 29, 3) := by decide +kernel
theorem dX7_thoughtWorth_42 : decode cX7_thoughtWorth 42 = .ok (.getfield 66, 3) := by decide +kernel
theorem dX7_thoughtWorth_45 : decode cX7_thoughtWorth 45 = .ok (.iload_n 2, 1) := by decide +kernel
theorem dX7_thoughtWorth_46 : decode cX7_thoughtWorth 46 = .ok (.iaload, 1) := by decide +kernel
theorem dX7_thoughtWorth_47 : decode cX7_thoughtWorth 47 = .ok (.goto 10, 3) := by decide +kernel
theorem dX7_thoughtWorth_50 : decode cX7_thoughtWorth 50 = .ok (.aload_n 0, 1) := by decide +kernel
theorem dX7_thoughtWorth_51 : decode cX7_thoughtWorth 51 = .ok (.getfield 29, 3) := by decide +kernel
theorem dX7_thoughtWorth_54 : decode cX7_thoughtWorth 54 = .ok (.invokevirtual 79, 3) := by decide +kernel
theorem dX7_thoughtWorth_57 : decode cX7_thoughtWorth 57 = .ok (.ireturn, 1) := by decide +kernel
theorem dX7_lookOver_0 : decode cX7_lookOver 0 = .ok (.aload_n 0, 1) := by decide +kernel
theorem dX7_lookOver_1 : decode cX7_lookOver 1 = .ok (.ldc2_w 83, 3) := by decide +kernel
theorem dX7_lookOver_4 : decode cX7_lookOver 4 = .ok (.putfield 22, 3) := by decide +kernel
theorem dX7_lookOver_7 : decode cX7_lookOver 7 = .ok (.aload_n 0, 1) := by decide +kernel
theorem dX7_lookOver_8 : decode cX7_lookOver 8 = .ok (.iload_n 1, 1) := by decide +kernel
theorem dX7_lookOver_9 : decode cX7_lookOver 9 = .ok (.i2l, 1) := by decide +kernel
theorem dX7_lookOver_10 : decode cX7_lookOver 10 = .ok (.putfield 26, 3) := by decide +kernel
theorem dX7_lookOver_13 : decode cX7_lookOver 13 = .ok (.aload_n 0, 1) := by decide +kernel
theorem dX7_lookOver_14 : decode cX7_lookOver 14 = .ok (.lconst 0, 1) := by decide +kernel
theorem dX7_lookOver_15 : decode cX7_lookOver 15 = .ok (.putfield 85, 3) := by decide +kernel
theorem dX7_lookOver_18 : decode cX7_lookOver 18 = .ok (.iconst 0, 1) := by decide +kernel
theorem dX7_lookOver_19 : decode cX7_lookOver 19 = .ok (.istore_n 2, 1) := by decide +kernel
theorem dX7_lookOver_20 : decode cX7_lookOver 20 = .ok (.iload_n 2, 1) := by decide +kernel
theorem dX7_lookOver_21 : decode cX7_lookOver 21 = .ok (.iload_n 1, 1) := by decide +kernel
theorem dX7_lookOver_22 : decode cX7_lookOver 22 = .ok (.if_icmp .ge 33, 3) := by decide +kernel
theorem dX7_lookOver_25 : decode cX7_lookOver 25 = .ok (.aload_n 0, 1) := by decide +kernel
theorem dX7_lookOver_26 : decode cX7_lookOver 26 = .ok (.dup, 1) := by decide +kernel
theorem dX7_lookOver_27 : decode cX7_lookOver 27 = .ok (.getfield 85, 3) := by decide +kernel
theorem dX7_lookOver_30 : decode cX7_lookOver 30 = .ok (.bipush 100, 2) := by decide +kernel
theorem dX7_lookOver_32 : decode cX7_lookOver 32 = .ok (.aload_n 0, 1) := by decide +kernel
theorem dX7_lookOver_33 : decode cX7_lookOver 33 = .ok (.getfield 29, 3) := by decide +kernel
theorem dX7_lookOver_36 : decode cX7_lookOver 36 = .ok (.getfield 88, 3) := by decide +kernel
theorem dX7_lookOver_39 : decode cX7_lookOver 39 = .ok (.iload_n 2, 1) := by decide +kernel
theorem dX7_lookOver_40 : decode cX7_lookOver 40 = .ok (.imul, 1) := by decide +kernel
theorem dX7_lookOver_41 : decode cX7_lookOver 41 = .ok (.invokestatic 91, 3) := by decide +kernel
theorem dX7_lookOver_44 : decode cX7_lookOver 44 = .ok (.i2l, 1) := by decide +kernel
theorem dX7_lookOver_45 : decode cX7_lookOver 45 = .ok (.ladd, 1) := by decide +kernel
theorem dX7_lookOver_46 : decode cX7_lookOver 46 = .ok (.putfield 85, 3) := by decide +kernel
theorem dX7_lookOver_49 : decode cX7_lookOver 49 = .ok (.iinc 2 1, 3) := by decide +kernel
theorem dX7_lookOver_52 : decode cX7_lookOver 52 = .ok (.goto (-32), 3) := by decide +kernel
theorem dX7_lookOver_55 : decode cX7_lookOver 55 = .ok (.return_, 1) := by decide +kernel
theorem dX7_lookAtOnce_0 : decode cX7_lookAtOnce 0 = .ok (.aload_n 0, 1) := by decide +kernel
theorem dX7_lookAtOnce_1 : decode cX7_lookAtOnce 1 = .ok (.lconst 1, 1) := by decide +kernel
theorem dX7_lookAtOnce_2 : decode cX7_lookAtOnce 2 = .ok (.putfield 22, 3) := by decide +kernel
theorem dX7_lookAtOnce_5 : decode cX7_lookAtOnce 5 = .ok (.aload_n 0, 1) := by decide +kernel
theorem dX7_lookAtOnce_6 : decode cX7_lookAtOnce 6 = .ok (.lconst 1, 1) := by decide +kernel
theorem dX7_lookAtOnce_7 : decode cX7_lookAtOnce 7 = .ok (.putfield 26, 3) := by decide +kernel
theorem dX7_lookAtOnce_10 : decode cX7_lookAtOnce 10 = .ok (.aload_n 0, 1) := by decide +kernel
theorem dX7_lookAtOnce_11 : decode cX7_lookAtOnce 11 = .ok (.lconst 0, 1) := by decide +kernel
theorem dX7_lookAtOnce_12 : decode cX7_lookAtOnce 12 = .ok (.putfield 85, 3) := by decide +kernel
theorem dX7_lookAtOnce_15 : decode cX7_lookAtOnce 15 = .ok (.return_, 1) := by decide +kernel
theorem dX7_topAt_0 : decode cX7_topAt 0 = .ok (.iload_n 2, 1) := by decide +kernel
theorem dX7_topAt_1 : decode cX7_topAt 1 = .ok (.iconst 4, 1) := by decide +kernel
theorem dX7_topAt_2 : decode cX7_topAt 2 = .ok (.if_icmp .ne 19, 3) := by decide +kernel
theorem dX7_topAt_5 : decode cX7_topAt 5 = .ok (.aload_n 0, 1) := by decide +kernel
theorem dX7_topAt_6 : decode cX7_topAt 6 = .ok (.getfield 26, 3) := by decide +kernel
theorem dX7_topAt_9 : decode cX7_topAt 9 = .ok (.aload_n 0, 1) := by decide +kernel
theorem dX7_topAt_10 : decode cX7_topAt 10 = .ok (.getfield 29, 3) := by decide +kernel
theorem dX7_topAt_13 : decode cX7_topAt 13 = .ok (.getfield 97, 3) := by decide +kernel
theorem dX7_topAt_16 : decode cX7_topAt 16 = .ok (.iload_n 1, 1) := by decide +kernel
theorem dX7_topAt_17 : decode cX7_topAt 17 = .ok (.iaload, 1) := by decide +kernel
theorem dX7_topAt_18 : decode cX7_topAt 18 = .ok (.i2l, 1) := by decide +kernel
theorem dX7_topAt_19 : decode cX7_topAt 19 = .ok (.lmul, 1) := by decide +kernel
theorem dX7_topAt_20 : decode cX7_topAt 20 = .ok (.lreturn, 1) := by decide +kernel
theorem dX7_topAt_21 : decode cX7_topAt 21 = .ok (.aload_n 0, 1) := by decide +kernel
theorem dX7_topAt_22 : decode cX7_topAt 22 = .ok (.getfield 29, 3) := by decide +kernel
theorem dX7_topAt_25 : decode cX7_topAt 25 = .ok (.getfield 100, 3) := by decide +kernel
theorem dX7_topAt_28 : decode cX7_topAt 28 = .ok (.iload_n 2, 1) := by decide +kernel
theorem dX7_topAt_29 : decode cX7_topAt 29 = .ok (.aaload, 1) := by decide +kernel
theorem dX7_topAt_30 : decode cX7_topAt 30 = .ok (.iload_n 1, 1) := by decide +kernel
theorem dX7_topAt_31 : decode cX7_topAt 31 = .ok (.iaload, 1) := by decide +kernel
theorem dX7_topAt_32 : decode cX7_topAt 32 = .ok (.iload_n 2, 1) := by decide +kernel
theorem dX7_topAt_33 : decode cX7_topAt 33 = .ok (.aload_n 0, 1) := by decide +kernel
theorem dX7_topAt_34 : decode cX7_topAt 34 = .ok (.getfield 104, 3) := by decide +kernel
theorem dX7_topAt_37 : decode cX7_topAt 37 = .ok (.if_icmp .ne 10, 3) := by decide +kernel
theorem dX7_topAt_40 : decode cX7_topAt 40 = .ok (.aload_n 0, 1) := by decide +kernel
theorem dX7_topAt_41 : decode cX7_topAt 41 = .ok (.getfield 107, 3) := by decide +kernel
theorem dX7_topAt_44 : decode cX7_topAt 44 = .ok (.goto 4, 3) := by decide +kernel
theorem dX7_topAt_47 : decode cX7_topAt 47 = .ok (.iconst 0, 1) := by decide +kernel
theorem dX7_topAt_48 : decode cX7_topAt 48 = .ok (.iadd, 1) := by decide +kernel
theorem dX7_topAt_49 : decode cX7_topAt 49 = .ok (.i2l, 1) := by decide +kernel
theorem dX7_topAt_50 : decode cX7_topAt 50 = .ok (.lstore_n 3, 1) := by decide +kernel
theorem dX7_topAt_51 : decode cX7_topAt 51 = .ok (.aload_n 0, 1) := by decide +kernel
theorem dX7_topAt_52 : decode cX7_topAt 52 = .ok (.getfield 22, 3) := by decide +kernel
theorem dX7_topAt_55 : decode cX7_topAt 55 = .ok (.aload_n 0, 1) := by decide +kernel
theorem dX7_topAt_56 : decode cX7_topAt 56 = .ok (.getfield 26, 3) := by decide +kernel
theorem dX7_topAt_59 : decode cX7_topAt 59 = .ok (.lmul, 1) := by decide +kernel
theorem dX7_topAt_60 : decode cX7_topAt 60 = .ok (.aload_n 0, 1) := by decide +kernel
theorem dX7_topAt_61 : decode cX7_topAt 61 = .ok (.getfield 85, 3) := by decide +kernel
theorem dX7_topAt_64 : decode cX7_topAt 64 = .ok (.lsub, 1) := by decide +kernel
theorem dX7_topAt_65 : decode cX7_topAt 65 = .ok (.aload_n 0, 1) := by decide +kernel
theorem dX7_topAt_66 : decode cX7_topAt 66 = .ok (.getfield 15, 3) := by decide +kernel
theorem dX7_topAt_69 : decode cX7_topAt 69 = .ok (.iload_n 2, 1) := by decide +kernel
theorem dX7_topAt_70 : decode cX7_topAt 70 = .ok (.laload, 1) := by decide +kernel
theorem dX7_topAt_71 : decode cX7_topAt 71 = .ok (.lmul, 1) := by decide +kernel
theorem dX7_topAt_72 : decode cX7_topAt 72 = .ok (.lstore 5, 2) := by decide +kernel
theorem dX7_topAt_74 : decode cX7_topAt 74 = .ok (.aload_n 0, 1) := by decide +kernel
theorem dX7_topAt_75 : decode cX7_topAt 75 = .ok (.getfield 85, 3) := by decide +kernel
theorem dX7_topAt_78 : decode cX7_topAt 78 = .ok (.aload_n 0, 1) := by decide +kernel
theorem dX7_topAt_79 : decode cX7_topAt 79 = .ok (.getfield 29, 3) := by decide +kernel
theorem dX7_topAt_82 : decode cX7_topAt 82 = .ok (.getfield 66, 3) := by decide +kernel
theorem dX7_topAt_85 : decode cX7_topAt 85 = .ok (.iload_n 1, 1) := by decide +kernel
theorem dX7_topAt_86 : decode cX7_topAt 86 = .ok (.iaload, 1) := by decide +kernel
theorem dX7_topAt_87 : decode cX7_topAt 87 = .ok (.aload_n 0, 1) := by decide +kernel
theorem dX7_topAt_88 : decode cX7_topAt 88 = .ok (.getfield 29, 3) := by decide +kernel
theorem dX7_topAt_91 : decode cX7_topAt 91 = .ok (.getfield 54, 3) := by decide +kernel
theorem dX7_topAt_94 : decode cX7_topAt 94 = .ok (.iload_n 2, 1) := by decide +kernel
theorem dX7_topAt_95 : decode cX7_topAt 95 = .ok (.iaload, 1) := by decide +kernel
theorem dX7_topAt_96 : decode cX7_topAt 96 = .ok (.iadd, 1) := by decide +kernel
theorem dX7_topAt_97 : decode cX7_topAt 97 = .ok (.i2l, 1) := by decide +kernel
theorem dX7_topAt_98 : decode cX7_topAt 98 = .ok (.lmul, 1) := by decide +kernel
theorem dX7_topAt_99 : decode cX7_topAt 99 = .ok (.aload_n 0, 1) := by decide +kernel
theorem dX7_topAt_100 : decode cX7_topAt 100 = .ok (.getfield 19, 3) := by decide +kernel
theorem dX7_topAt_103 : decode cX7_topAt 103 = .ok (.iload_n 2, 1) := by decide +kernel
theorem dX7_topAt_104 : decode cX7_topAt 104 = .ok (.laload, 1) := by decide +kernel
theorem dX7_topAt_105 : decode cX7_topAt 105 = .ok (.lmul, 1) := by decide +kernel
theorem dX7_topAt_106 : decode cX7_topAt 106 = .ok (.lstore 7, 2) := by decide +kernel
theorem dX7_topAt_108 : decode cX7_topAt 108 = .ok (.lload 5, 2) := by decide +kernel
theorem dX7_topAt_110 : decode cX7_topAt 110 = .ok (.lload 7, 2) := by decide +kernel
theorem dX7_topAt_112 : decode cX7_topAt 112 = .ok (.ladd, 1) := by decide +kernel
theorem dX7_topAt_113 : decode cX7_topAt 113 = .ok (.aload_n 0, 1) := by decide +kernel
theorem dX7_topAt_114 : decode cX7_topAt 114 = .ok (.getfield 22, 3) := by decide +kernel
theorem dX7_topAt_117 : decode cX7_topAt 117 = .ok (.lload_n 3, 1) := by decide +kernel
theorem dX7_topAt_118 : decode cX7_topAt 118 = .ok (.lmul, 1) := by decide +kernel
theorem dX7_topAt_119 : decode cX7_topAt 119 = .ok (.aload_n 0, 1) := by decide +kernel
theorem dX7_topAt_120 : decode cX7_topAt 120 = .ok (.getfield 19, 3) := by decide +kernel
theorem dX7_topAt_123 : decode cX7_topAt 123 = .ok (.iload_n 2, 1) := by decide +kernel
theorem dX7_topAt_124 : decode cX7_topAt 124 = .ok (.laload, 1) := by decide +kernel
theorem dX7_topAt_125 : decode cX7_topAt 125 = .ok (.lmul, 1) := by decide +kernel
theorem dX7_topAt_126 : decode cX7_topAt 126 = .ok (.lsub, 1) := by decide +kernel
theorem dX7_topAt_127 : decode cX7_topAt 127 = .ok (.lreturn, 1) := by decide +kernel
theorem dX7_underAt_0 : decode cX7_underAt 0 = .ok (.iload_n 1, 1) := by decide +kernel
theorem dX7_underAt_1 : decode cX7_underAt 1 = .ok (.iconst 4, 1) := by decide +kernel
theorem dX7_underAt_2 : decode cX7_underAt 2 = .ok (.if_icmp .ne 7, 3) := by decide +kernel
theorem dX7_underAt_5 : decode cX7_underAt 5 = .ok (.lconst 1, 1) := by decide +kernel
theorem dX7_underAt_6 : decode cX7_underAt 6 = .ok (.goto 14, 3) := by decide +kernel
theorem dX7_underAt_9 : decode cX7_underAt 9 = .ok (.aload_n 0, 1) := by decide +kernel
theorem dX7_underAt_10 : decode cX7_underAt 10 = .ok (.getfield 22, 3) := by decide +kernel
theorem dX7_underAt_13 : decode cX7_underAt 13 = .ok (.aload_n 0, 1) := by decide +kernel
theorem dX7_underAt_14 : decode cX7_underAt 14 = .ok (.getfield 19, 3) := by decide +kernel
theorem dX7_underAt_17 : decode cX7_underAt 17 = .ok (.iload_n 1, 1) := by decide +kernel
theorem dX7_underAt_18 : decode cX7_underAt 18 = .ok (.laload, 1) := by decide +kernel
theorem dX7_underAt_19 : decode cX7_underAt 19 = .ok (.lmul, 1) := by decide +kernel
theorem dX7_underAt_20 : decode cX7_underAt 20 = .ok (.lreturn, 1) := by decide +kernel
set_option maxRecDepth 20000 in
theorem ggX7_ownTop_X7_topAt : GoodIn wsX7_ownTop wsX7_topAt := goodIn_r _ [6, 7, 8, 9, 10, 11, 12, 13, 14, 15, 16, 17, 18, 19, 20, 21, 22, 23, 24, 25, 26, 27, 28, 29, 30, 31, 32, 33, 34, 35, 36, 37, 38, 39, 40, 41] (by decide +kernel) (by decide +kernel)
set_option maxRecDepth 20000 in
theorem gX7_ownTop_X7_topAt : GoodIn wsX7_ownTop (wsV RX7 110 RX7 yX7_topAt wsX7_topAt) := goodIn_app (goodIn_of _ (by decide +kernel)) ggX7_ownTop_X7_topAt
theorem dX7_ownTop_0 : decode cX7_ownTop 0 = .ok (.aload_n 0, 1) := by decide +kernel
theorem dX7_ownTop_1 : decode cX7_ownTop 1 = .ok (.iload_n 1, 1) := by decide +kernel
theorem dX7_ownTop_2 : decode cX7_ownTop 2 = .ok (.aload_n 0, 1) := by decide +kernel
theorem dX7_ownTop_3 : decode cX7_ownTop 3 = .ok (.getfield 9, 3) := by decide +kernel
theorem dX7_ownTop_6 : decode cX7_ownTop 6 = .ok (.iload_n 1, 1) := by decide +kernel
theorem dX7_ownTop_7 : decode cX7_ownTop 7 = .ok (.iaload, 1) := by decide +kernel
theorem dX7_ownTop_8 : decode cX7_ownTop 8 = .ok (.invokevirtual 110, 3) := by decide +kernel
theorem dX7_ownTop_11 : decode cX7_ownTop 11 = .ok (.lreturn, 1) := by decide +kernel
set_option maxRecDepth 20000 in
theorem ggX7_ownUnder_X7_underAt : GoodIn wsX7_ownUnder wsX7_underAt := goodIn_r _ [6, 7, 8, 9, 10, 11, 12, 13, 14, 15, 16, 17, 18, 19, 20, 21, 22] (by decide +kernel) (by decide +kernel)
set_option maxRecDepth 20000 in
theorem gX7_ownUnder_X7_underAt : GoodIn wsX7_ownUnder (wsV RX7 114 RX7 yX7_underAt wsX7_underAt) := goodIn_app (goodIn_of _ (by decide +kernel)) ggX7_ownUnder_X7_underAt
theorem dX7_ownUnder_0 : decode cX7_ownUnder 0 = .ok (.aload_n 0, 1) := by decide +kernel
theorem dX7_ownUnder_1 : decode cX7_ownUnder 1 = .ok (.aload_n 0, 1) := by decide +kernel
theorem dX7_ownUnder_2 : decode cX7_ownUnder 2 = .ok (.getfield 9, 3) := by decide +kernel
theorem dX7_ownUnder_5 : decode cX7_ownUnder 5 = .ok (.iload_n 1, 1) := by decide +kernel
theorem dX7_ownUnder_6 : decode cX7_ownUnder 6 = .ok (.iaload, 1) := by decide +kernel
theorem dX7_ownUnder_7 : decode cX7_ownUnder 7 = .ok (.invokevirtual 114, 3) := by decide +kernel
theorem dX7_ownUnder_10 : decode cX7_ownUnder 10 = .ok (.lreturn, 1) := by decide +kernel
set_option maxRecDepth 20000 in
theorem ggX7_firstLure_X7_topAt : GoodIn wsX7_firstLure wsX7_topAt := goodIn_r _ [9, 10, 2, 11, 12, 13, 14, 15, 16, 17, 18, 19, 20, 25, 26, 27, 28, 29, 30, 31, 32, 33, 34, 35, 36, 37, 38, 39, 40, 41, 42, 43, 44, 45, 46, 47] (by decide +kernel) (by decide +kernel)
set_option maxRecDepth 20000 in
theorem gX7_firstLure_X7_topAt : GoodIn wsX7_firstLure (wsV RX7 110 RX7 yX7_topAt wsX7_topAt) := goodIn_app (goodIn_of _ (by decide +kernel)) ggX7_firstLure_X7_topAt
set_option maxRecDepth 20000 in
theorem ggX7_firstLure_X7_underAt : GoodIn wsX7_firstLure wsX7_underAt := goodIn_r _ [24, 15, 20, 25, 26, 27, 28, 29, 30, 31, 32, 33, 34, 35, 36, 37, 38] (by decide +kernel) (by decide +kernel)
set_option maxRecDepth 20000 in
theorem gX7_firstLure_X7_underAt : GoodIn wsX7_firstLure (wsV RX7 114 RX7 yX7_underAt wsX7_underAt) := goodIn_app (goodIn_of _ (by decide +kernel)) ggX7_firstLure_X7_underAt
theorem dX7_firstLure_0 : decode cX7_firstLure 0 = .ok (.aload_n 0, 1) := by decide +kernel
theorem dX7_firstLure_1 : decode cX7_firstLure 1 = .ok (.iload_n 1, 1) := by decide +kernel
theorem dX7_firstLure_2 : decode cX7_firstLure 2 = .ok (.aload_n 0, 1) := by decide +kernel
theorem dX7_firstLure_3 : decode cX7_firstLure 3 = .ok (.getfield 9, 3) := by decide +kernel
theorem dX7_firstLure_6 : decode cX7_firstLure 6 = .ok (.iload_n 1, 1) := by decide +kernel
theorem dX7_firstLure_7 : decode cX7_firstLure 7 = .ok (.iaload, 1) := by decide +kernel
theorem dX7_firstLure_8 : decode cX7_firstLure 8 = .ok (.invokevirtual 110, 3) := by decide +kernel
theorem dX7_firstLure_11 : decode cX7_firstLure 11 = .ok (.lstore_n 2, 1) := by decide +kernel
theorem dX7_firstLure_12 : decode cX7_firstLure 12 = .ok (.aload_n 0, 1) := by decide +kernel
theorem dX7_firstLure_13 : decode cX7_firstLure 13 = .ok (.aload_n 0, 1) := by decide +kernel
theorem dX7_firstLure_14 : decode cX7_firstLure 14 = .ok (.getfield 9, 3) := by decide +kernel
theorem dX7_firstLure_17 : decode cX7_firstLure 17 = .ok (.iload_n 1, 1) := by decide +kernel
theorem dX7_firstLure_18 : decode cX7_firstLure 18 = .ok (.iaload, 1) := by decide +kernel
theorem dX7_firstLure_19 : decode cX7_firstLure 19 = .ok (.invokevirtual 114, 3) := by decide +kernel
theorem dX7_firstLure_22 : decode cX7_firstLure 22 = .ok (.lstore 4, 2) := by decide +kernel
theorem dX7_firstLure_24 : decode cX7_firstLure 24 = .ok (.iconst 0, 1) := by decide +kernel
theorem dX7_firstLure_25 : decode cX7_firstLure 25 = .ok (.istore 6, 2) := by decide +kernel
theorem dX7_firstLure_27 : decode cX7_firstLure 27 = .ok (.iload 6, 2) := by decide +kernel
theorem dX7_firstLure_29 : decode cX7_firstLure 29 = .ok (.aload_n 0, 1) := by decide +kernel
theorem dX7_firstLure_30 : decode cX7_firstLure 30 = .ok (.getfield 29, 3) := by decide +kernel
theorem dX7_firstLure_33 : decode cX7_firstLure 33 = .ok (.getfield 37, 3) := by decide +kernel
theorem dX7_firstLure_36 : decode cX7_firstLure 36 = .ok (.if_icmp .ge 58, 3) := by decide +kernel
theorem dX7_firstLure_39 : decode cX7_firstLure 39 = .ok (.aload_n 0, 1) := by decide +kernel
theorem dX7_firstLure_40 : decode cX7_firstLure 40 = .ok (.getfield 118, 3) := by decide +kernel
theorem dX7_firstLure_43 : decode cX7_firstLure 43 = .ok (.iload 6, 2) := by decide +kernel
theorem dX7_firstLure_45 : decode cX7_firstLure 45 = .ok (.ishr, 1) := by decide +kernel
theorem dX7_firstLure_46 : decode cX7_firstLure 46 = .ok (.iconst 1, 1) := by decide +kernel
theorem dX7_firstLure_47 : decode cX7_firstLure 47 = .ok (.iand, 1) := by decide +kernel
theorem dX7_firstLure_48 : decode cX7_firstLure 48 = .ok (.ifCond .ne 7, 3) := by decide +kernel
theorem dX7_firstLure_51 : decode cX7_firstLure 51 = .ok (.iconst 1, 1) := by decide +kernel
theorem dX7_firstLure_52 : decode cX7_firstLure 52 = .ok (.goto 4, 3) := by decide +kernel
theorem dX7_firstLure_55 : decode cX7_firstLure 55 = .ok (.iconst 0, 1) := by decide +kernel
theorem dX7_firstLure_56 : decode cX7_firstLure 56 = .ok (.istore 7, 2) := by decide +kernel
theorem dX7_firstLure_58 : decode cX7_firstLure 58 = .ok (.iload 7, 2) := by decide +kernel
theorem dX7_firstLure_60 : decode cX7_firstLure 60 = .ok (.ifCond .eq 28, 3) := by decide +kernel
theorem dX7_firstLure_63 : decode cX7_firstLure 63 = .ok (.aload_n 0, 1) := by decide +kernel
theorem dX7_firstLure_64 : decode cX7_firstLure 64 = .ok (.iload_n 1, 1) := by decide +kernel
theorem dX7_firstLure_65 : decode cX7_firstLure 65 = .ok (.iload 6, 2) := by decide +kernel
theorem dX7_firstLure_67 : decode cX7_firstLure 67 = .ok (.invokevirtual 110, 3) := by decide +kernel
theorem dX7_firstLure_70 : decode cX7_firstLure 70 = .ok (.lload 4, 2) := by decide +kernel
theorem dX7_firstLure_72 : decode cX7_firstLure 72 = .ok (.lmul, 1) := by decide +kernel
theorem dX7_firstLure_73 : decode cX7_firstLure 73 = .ok (.lload_n 2, 1) := by decide +kernel
theorem dX7_firstLure_74 : decode cX7_firstLure 74 = .ok (.aload_n 0, 1) := by decide +kernel
theorem dX7_firstLure_75 : decode cX7_firstLure 75 = .ok (.iload 6, 2) := by decide +kernel
theorem dX7_firstLure_77 : decode cX7_firstLure 77 = .ok (.invokevirtual 114, 3) := by decide +kernel
theorem dX7_firstLure_80 : decode cX7_firstLure 80 = .ok (.lmul, 1) := by decide +kernel
theorem dX7_firstLure_81 : decode cX7_firstLure 81 = .ok (.lcmp, 1) := by decide +kernel
theorem dX7_firstLure_82 : decode cX7_firstLure 82 = .ok (.ifCond .le 6, 3) := by decide +kernel
theorem dX7_firstLure_85 : decode cX7_firstLure 85 = .ok (.iload 6, 2) := by decide +kernel
theorem dX7_firstLure_87 : decode cX7_firstLure 87 = .ok (.ireturn, 1) := by decide +kernel
theorem dX7_firstLure_88 : decode cX7_firstLure 88 = .ok (.iinc 6 1, 3) := by decide +kernel
theorem dX7_firstLure_91 : decode cX7_firstLure 91 = .ok (.goto (-64), 3) := by decide +kernel
theorem dX7_firstLure_94 : decode cX7_firstLure 94 = .ok (.aload_n 0, 1) := by decide +kernel
theorem dX7_firstLure_95 : decode cX7_firstLure 95 = .ok (.iload_n 1, 1) := by decide +kernel
theorem dX7_firstLure_96 : decode cX7_firstLure 96 = .ok (.iconst 4, 1) := by decide +kernel
theorem dX7_firstLure_97 : decode cX7_firstLure 97 = .ok (.invokevirtual 110, 3) := by decide +kernel
theorem dX7_firstLure_100 : decode cX7_firstLure 100 = .ok (.lload 4, 2) := by decide +kernel
theorem dX7_firstLure_102 : decode cX7_firstLure 102 = .ok (.lmul, 1) := by decide +kernel
theorem dX7_firstLure_103 : decode cX7_firstLure 103 = .ok (.lload_n 2, 1) := by decide +kernel
theorem dX7_firstLure_104 : decode cX7_firstLure 104 = .ok (.lcmp, 1) := by decide +kernel
theorem dX7_firstLure_105 : decode cX7_firstLure 105 = .ok (.ifCond .le 7, 3) := by decide +kernel
theorem dX7_firstLure_108 : decode cX7_firstLure 108 = .ok (.iconst 4, 1) := by decide +kernel
theorem dX7_firstLure_109 : decode cX7_firstLure 109 = .ok (.goto 5, 3) := by decide +kernel
theorem dX7_firstLure_112 : decode cX7_firstLure 112 = .ok (.bipush (-4), 2) := by decide +kernel
theorem dX7_firstLure_114 : decode cX7_firstLure 114 = .ok (.ireturn, 1) := by decide +kernel
set_option maxRecDepth 20000 in
theorem ggX7_firstRather_X7_firstLure : GoodIn wsX7_firstRather wsX7_firstLure := goodIn_r _ [7, 8, 1, 9, 10, 11, 12, 13, 6, 14, 15, 16, 17, 18, 19, 20, 21, 22, 23, 24, 25, 26, 27, 28, 29, 30, 31, 32, 33, 34, 35, 36, 37, 38, 39, 40, 41, 42, 43, 44, 45, 46, 47, 48, 49, 50, 51, 52] (by decide +kernel) (by decide +kernel)
set_option maxRecDepth 20000 in
theorem gX7_firstRather_X7_firstLure : GoodIn wsX7_firstRather (wsV RX7 121 RX7 yX7_firstLure wsX7_firstLure) := goodIn_app (goodIn_of _ (by decide +kernel)) ggX7_firstRather_X7_firstLure
theorem dX7_firstRather_0 : decode cX7_firstRather 0 = .ok (.iconst 0, 1) := by decide +kernel
theorem dX7_firstRather_1 : decode cX7_firstRather 1 = .ok (.istore_n 1, 1) := by decide +kernel
theorem dX7_firstRather_2 : decode cX7_firstRather 2 = .ok (.iload_n 1, 1) := by decide +kernel
theorem dX7_firstRather_3 : decode cX7_firstRather 3 = .ok (.aload_n 0, 1) := by decide +kernel
theorem dX7_firstRather_4 : decode cX7_firstRather 4 = .ok (.getfield 29, 3) := by decide +kernel
theorem dX7_firstRather_7 : decode cX7_firstRather 7 = .ok (.getfield 60, 3) := by decide +kernel
theorem dX7_firstRather_10 : decode cX7_firstRather 10 = .ok (.if_icmp .ge 28, 3) := by decide +kernel
theorem dX7_firstRather_13 : decode cX7_firstRather 13 = .ok (.aload_n 0, 1) := by decide +kernel
theorem dX7_firstRather_14 : decode cX7_firstRather 14 = .ok (.iload_n 1, 1) := by decide +kernel
theorem dX7_firstRather_15 : decode cX7_firstRather 15 = .ok (.invokevirtual 121, 3) := by decide +kernel
theorem dX7_firstRather_18 : decode cX7_firstRather 18 = .ok (.istore_n 2, 1) := by decide +kernel
theorem dX7_firstRather_19 : decode cX7_firstRather 19 = .ok (.iload_n 2, 1) := by decide +kernel
theorem dX7_firstRather_20 : decode cX7_firstRather 20 = .ok (.bipush (-4), 2) := by decide +kernel
theorem dX7_firstRather_22 : decode cX7_firstRather 22 = .ok (.if_icmp .eq 10, 3) := by decide +kernel
theorem dX7_firstRather_25 : decode cX7_firstRather 25 = .ok (.bipush 10, 2) := by decide +kernel
theorem dX7_firstRather_27 : decode cX7_firstRather 27 = .ok (.iload_n 1, 1) := by decide +kernel
theorem dX7_firstRather_28 : decode cX7_firstRather 28 = .ok (.imul, 1) := by decide +kernel
theorem dX7_firstRather_29 : decode cX7_firstRather 29 = .ok (.iload_n 2, 1) := by decide +kernel
theorem dX7_firstRather_30 : decode cX7_firstRather 30 = .ok (.iadd, 1) := by decide +kernel
theorem dX7_firstRather_31 : decode cX7_firstRather 31 = .ok (.ireturn, 1) := by decide +kernel
theorem dX7_firstRather_32 : decode cX7_firstRather 32 = .ok (.iinc 1 1, 3) := by decide +kernel
theorem dX7_firstRather_35 : decode cX7_firstRather 35 = .ok (.goto (-33), 3) := by decide +kernel
theorem dX7_firstRather_38 : decode cX7_firstRather 38 = .ok (.bipush (-4), 2) := by decide +kernel
theorem dX7_firstRather_40 : decode cX7_firstRather 40 = .ok (.ireturn, 1) := by decide +kernel
set_option maxRecDepth 20000 in
theorem ggX7_isSure_X7_firstRather : GoodIn wsX7_isSure wsX7_firstRather := goodIn_r _ [7, 8, 9, 10, 11, 12, 6, 13, 14, 15, 2, 16, 17, 18, 19, 20, 21, 22, 23, 24, 25, 26, 27, 28, 29, 30, 31, 32, 33, 34, 35, 36, 37, 38, 39, 40, 41, 42, 43, 44, 45, 46, 47, 48, 49, 50, 51, 52, 53, 54, 55, 56, 57] (by decide +kernel) (by decide +kernel)
set_option maxRecDepth 20000 in
theorem gX7_isSure_X7_firstRather : GoodIn wsX7_isSure (wsV RX7 124 RX7 yX7_firstRather wsX7_firstRather) := goodIn_app (goodIn_of _ (by decide +kernel)) ggX7_isSure_X7_firstRather
theorem dX7_isSure_0 : decode cX7_isSure 0 = .ok (.aload_n 0, 1) := by decide +kernel
theorem dX7_isSure_1 : decode cX7_isSure 1 = .ok (.getfield 57, 3) := by decide +kernel
theorem dX7_isSure_4 : decode cX7_isSure 4 = .ok (.aload_n 0, 1) := by decide +kernel
theorem dX7_isSure_5 : decode cX7_isSure 5 = .ok (.getfield 118, 3) := by decide +kernel
theorem dX7_isSure_8 : decode cX7_isSure 8 = .ok (.iand, 1) := by decide +kernel
theorem dX7_isSure_9 : decode cX7_isSure 9 = .ok (.ifCond .ne 16, 3) := by decide +kernel
theorem dX7_isSure_12 : decode cX7_isSure 12 = .ok (.aload_n 0, 1) := by decide +kernel
theorem dX7_isSure_13 : decode cX7_isSure 13 = .ok (.invokevirtual 124, 3) := by decide +kernel
theorem dX7_isSure_16 : decode cX7_isSure 16 = .ok (.bipush (-4), 2) := by decide +kernel
theorem dX7_isSure_18 : decode cX7_isSure 18 = .ok (.if_icmp .ne 7, 3) := by decide +kernel
theorem dX7_isSure_21 : decode cX7_isSure 21 = .ok (.iconst 1, 1) := by decide +kernel
theorem dX7_isSure_22 : decode cX7_isSure 22 = .ok (.goto 4, 3) := by decide +kernel
theorem dX7_isSure_25 : decode cX7_isSure 25 = .ok (.iconst 0, 1) := by decide +kernel
theorem dX7_isSure_26 : decode cX7_isSure 26 = .ok (.ireturn, 1) := by decide +kernel
set_option maxRecDepth 20000 in
theorem ggX7_isContentBut_X7_firstLure : GoodIn wsX7_isContentBut wsX7_firstLure := goodIn_r _ [7, 8, 1, 9, 10, 11, 12, 13, 6, 14, 15, 16, 17, 18, 19, 20, 21, 22, 23, 24, 25, 26, 27, 28, 29, 30, 31, 32, 33, 34, 35, 36, 37, 38, 39, 40, 41, 42, 43, 44, 45, 46, 47, 48, 49, 50, 51, 52] (by decide +kernel) (by decide +kernel)
set_option maxRecDepth 20000 in
theorem gX7_isContentBut_X7_firstLure : GoodIn wsX7_isContentBut (wsV RX7 121 RX7 yX7_firstLure wsX7_firstLure) := goodIn_app (goodIn_of _ (by decide +kernel)) ggX7_isContentBut_X7_firstLure
theorem dX7_isContentBut_0 : decode cX7_isContentBut 0 = .ok (.iconst 0, 1) := by decide +kernel
theorem dX7_isContentBut_1 : decode cX7_isContentBut 1 = .ok (.istore_n 2, 1) := by decide +kernel
theorem dX7_isContentBut_2 : decode cX7_isContentBut 2 = .ok (.iload_n 2, 1) := by decide +kernel
theorem dX7_isContentBut_3 : decode cX7_isContentBut 3 = .ok (.aload_n 0, 1) := by decide +kernel
theorem dX7_isContentBut_4 : decode cX7_isContentBut 4 = .ok (.getfield 29, 3) := by decide +kernel
theorem dX7_isContentBut_7 : decode cX7_isContentBut 7 = .ok (.getfield 60, 3) := by decide +kernel
theorem dX7_isContentBut_10 : decode cX7_isContentBut 10 = .ok (.if_icmp .ge 26, 3) := by decide +kernel
theorem dX7_isContentBut_13 : decode cX7_isContentBut 13 = .ok (.iload_n 2, 1) := by decide +kernel
theorem dX7_isContentBut_14 : decode cX7_isContentBut 14 = .ok (.iload_n 1, 1) := by decide +kernel
theorem dX7_isContentBut_15 : decode cX7_isContentBut 15 = .ok (.if_icmp .eq 15, 3) := by decide +kernel
theorem dX7_isContentBut_18 : decode cX7_isContentBut 18 = .ok (.aload_n 0, 1) := by decide +kernel
theorem dX7_isContentBut_19 : decode cX7_isContentBut 19 = .ok (.iload_n 2, 1) := by decide +kernel
theorem dX7_isContentBut_20 : decode cX7_isContentBut 20 = .ok (.invokevirtual 121, 3) := by decide +kernel
theorem dX7_isContentBut_23 : decode cX7_isContentBut 23 = .ok (.bipush (-4), 2) := by decide +kernel
theorem dX7_isContentBut_25 : decode cX7_isContentBut 25 = .ok (.if_icmp .eq 5, 3) := by decide +kernel
theorem dX7_isContentBut_28 : decode cX7_isContentBut 28 = .ok (.iconst 0, 1) := by decide +kernel
theorem dX7_isContentBut_29 : decode cX7_isContentBut 29 = .ok (.ireturn, 1) := by decide +kernel
theorem dX7_isContentBut_30 : decode cX7_isContentBut 30 = .ok (.iinc 2 1, 3) := by decide +kernel
theorem dX7_isContentBut_33 : decode cX7_isContentBut 33 = .ok (.goto (-31), 3) := by decide +kernel
theorem dX7_isContentBut_36 : decode cX7_isContentBut 36 = .ok (.iconst 1, 1) := by decide +kernel
theorem dX7_isContentBut_37 : decode cX7_isContentBut 37 = .ok (.ireturn, 1) := by decide +kernel
set_option maxRecDepth 20000 in
theorem ggX7_isBarred_X4_mostWorth : GoodIn wsX7_isBarred wsX4_mostWorth := goodIn_r _ [8, 9, 10, 11, 12, 13, 14, 56, 57, 58, 59, 60, 61, 62, 63, 64] (by decide +kernel) (by decide +kernel)
set_option maxRecDepth 20000 in
theorem gX7_isBarred_X4_mostWorth : GoodIn wsX7_isBarred (wsV RX7 127 RX4 yX4_mostWorth wsX4_mostWorth) := goodIn_app (goodIn_of _ (by decide +kernel)) ggX7_isBarred_X4_mostWorth
set_option maxRecDepth 20000 in
theorem ggX7_isBarred_X7_ownUnder : GoodIn wsX7_isBarred wsX7_ownUnder := goodIn_r _ [19, 20, 21, 22, 23, 18, 24, 25, 26, 42, 43, 44, 45, 46, 47, 48, 49, 50, 51, 52, 53, 54, 55] (by decide +kernel) (by decide +kernel)
set_option maxRecDepth 20000 in
theorem gX7_isBarred_X7_ownUnder : GoodIn wsX7_isBarred (wsV RX7 130 RX7 yX7_ownUnder wsX7_ownUnder) := goodIn_app (goodIn_of _ (by decide +kernel)) ggX7_isBarred_X7_ownUnder
set_option maxRecDepth 20000 in
theorem ggX7_isBarred_X7_ownTop : GoodIn wsX7_isBarred wsX7_ownTop := goodIn_r _ [30, 20, 31, 32, 33, 18, 34, 35, 1, 36, 3, 37, 38, 25, 39, 40, 41, 2, 26, 42, 43, 44, 45, 46, 47, 48, 49, 50, 51, 52, 53, 54, 55, 56, 57, 58, 59, 60, 61, 62, 63, 64] (by decide +kernel) (by decide +kernel)
set_option maxRecDepth 20000 in
theorem gX7_isBarred_X7_ownTop : GoodIn wsX7_isBarred (wsV RX7 133 RX7 yX7_ownTop wsX7_ownTop) := goodIn_app (goodIn_of _ (by decide +kernel)) ggX7_isBarred_X7_ownTop
theorem dX7_isBarred_0 : decode cX7_isBarred 0 = .ok (.aload_n 0, 1) := by decide +kernel
theorem dX7_isBarred_1 : decode cX7_isBarred 1 = .ok (.getfield 29, 3) := by decide +kernel
theorem dX7_isBarred_4 : decode cX7_isBarred 4 = .ok (.invokevirtual 127, 3) := by decide +kernel
theorem dX7_isBarred_7 : decode cX7_isBarred 7 = .ok (.aload_n 0, 1) := by decide +kernel
theorem dX7_isBarred_8 : decode cX7_isBarred 8 = .ok (.getfield 29, 3) := by decide +kernel
theorem dX7_isBarred_11 : decode cX7_isBarred 11 = .ok (.getfield 54, 3) := by decide +kernel
theorem dX7_isBarred_14 : decode cX7_isBarred 14 = .ok (.iload_n 1, 1) := by decide +kernel
theorem dX7_isBarred_15 : decode cX7_isBarred 15 = .ok (.iaload, 1) := by decide +kernel
theorem dX7_isBarred_16 : decode cX7_isBarred 16 = .ok (.iadd, 1) := by decide +kernel
theorem dX7_isBarred_17 : decode cX7_isBarred 17 = .ok (.aload_n 0, 1) := by decide +kernel
theorem dX7_isBarred_18 : decode cX7_isBarred 18 = .ok (.getfield 29, 3) := by decide +kernel
theorem dX7_isBarred_21 : decode cX7_isBarred 21 = .ok (.getfield 100, 3) := by decide +kernel
theorem dX7_isBarred_24 : decode cX7_isBarred 24 = .ok (.iload_n 1, 1) := by decide +kernel
theorem dX7_isBarred_25 : decode cX7_isBarred 25 = .ok (.aaload, 1) := by decide +kernel
theorem dX7_isBarred_26 : decode cX7_isBarred 26 = .ok (.iload_n 2, 1) := by decide +kernel
theorem dX7_isBarred_27 : decode cX7_isBarred 27 = .ok (.iaload, 1) := by decide +kernel
theorem dX7_isBarred_28 : decode cX7_isBarred 28 = .ok (.isub, 1) := by decide +kernel
theorem dX7_isBarred_29 : decode cX7_isBarred 29 = .ok (.i2l, 1) := by decide +kernel
theorem dX7_isBarred_30 : decode cX7_isBarred 30 = .ok (.lstore_n 3, 1) := by decide +kernel
theorem dX7_isBarred_31 : decode cX7_isBarred 31 = .ok (.lload_n 3, 1) := by decide +kernel
theorem dX7_isBarred_32 : decode cX7_isBarred 32 = .ok (.aload_n 0, 1) := by decide +kernel
theorem dX7_isBarred_33 : decode cX7_isBarred 33 = .ok (.iload_n 2, 1) := by decide +kernel
theorem dX7_isBarred_34 : decode cX7_isBarred 34 = .ok (.invokevirtual 130, 3) := by decide +kernel
theorem dX7_isBarred_37 : decode cX7_isBarred 37 = .ok (.lmul, 1) := by decide +kernel
theorem dX7_isBarred_38 : decode cX7_isBarred 38 = .ok (.aload_n 0, 1) := by decide +kernel
theorem dX7_isBarred_39 : decode cX7_isBarred 39 = .ok (.iload_n 2, 1) := by decide +kernel
theorem dX7_isBarred_40 : decode cX7_isBarred 40 = .ok (.invokevirtual 133, 3) := by decide +kernel
theorem dX7_isBarred_43 : decode cX7_isBarred 43 = .ok (.lcmp, 1) := by decide +kernel
theorem dX7_isBarred_44 : decode cX7_isBarred 44 = .ok (.ifCond .ge 7, 3) := by decide +kernel
theorem dX7_isBarred_47 : decode cX7_isBarred 47 = .ok (.iconst 1, 1) := by decide +kernel
theorem dX7_isBarred_48 : decode cX7_isBarred 48 = .ok (.goto 4, 3) := by decide +kernel
theorem dX7_isBarred_51 : decode cX7_isBarred 51 = .ok (.iconst 0, 1) := by decide +kernel
theorem dX7_isBarred_52 : decode cX7_isBarred 52 = .ok (.ireturn, 1) := by decide +kernel
set_option maxRecDepth 20000 in
theorem ggX7_fallsBy_X7_isMade : GoodIn wsX7_fallsBy wsX7_isMade := goodIn_r _ [7, 8, 61, 62, 63, 64, 65, 66, 67, 68, 69, 70, 71, 72, 73, 74] (by decide +kernel) (by decide +kernel)
set_option maxRecDepth 20000 in
theorem gX7_fallsBy_X7_isMade : GoodIn wsX7_fallsBy (wsV RX7 43 RX7 yX7_isMade wsX7_isMade) := goodIn_app (goodIn_of _ (by decide +kernel)) ggX7_fallsBy_X7_isMade
set_option maxRecDepth 20000 in
theorem ggX7_fallsBy_X7_firstDrawn : GoodIn wsX7_fallsBy wsX7_firstDrawn := goodIn_r _ [12, 1, 13, 14, 15, 16, 17, 18, 19, 6, 20, 21, 22, 23, 24, 25, 26, 27, 28, 29, 30, 31, 32, 33, 34, 35, 36, 37, 38, 39, 40, 41, 42, 43, 44, 45, 46, 47, 48, 49, 50, 51, 52, 53, 54, 55, 56, 57, 58, 59, 60, 61, 62, 63, 64, 65, 66, 67, 68, 69, 70, 71, 72, 73, 74, 75, 76, 77, 78, 79, 80, 81, 82, 83] (by decide +kernel) (by decide +kernel)
set_option maxRecDepth 20000 in
theorem gX7_fallsBy_X7_firstDrawn : GoodIn wsX7_fallsBy (wsV RX7 136 RX7 yX7_firstDrawn wsX7_firstDrawn) := goodIn_app (goodIn_of _ (by decide +kernel)) ggX7_fallsBy_X7_firstDrawn
theorem dX7_fallsBy_0 : decode cX7_fallsBy 0 = .ok (.iconst 0, 1) := by decide +kernel
theorem dX7_fallsBy_1 : decode cX7_fallsBy 1 = .ok (.istore_n 1, 1) := by decide +kernel
theorem dX7_fallsBy_2 : decode cX7_fallsBy 2 = .ok (.iload_n 1, 1) := by decide +kernel
theorem dX7_fallsBy_3 : decode cX7_fallsBy 3 = .ok (.aload_n 0, 1) := by decide +kernel
theorem dX7_fallsBy_4 : decode cX7_fallsBy 4 = .ok (.getfield 29, 3) := by decide +kernel
theorem dX7_fallsBy_7 : decode cX7_fallsBy 7 = .ok (.getfield 37, 3) := by decide +kernel
theorem dX7_fallsBy_10 : decode cX7_fallsBy 10 = .ok (.if_icmp .ge 41, 3) := by decide +kernel
theorem dX7_fallsBy_13 : decode cX7_fallsBy 13 = .ok (.aload_n 0, 1) := by decide +kernel
theorem dX7_fallsBy_14 : decode cX7_fallsBy 14 = .ok (.iload_n 1, 1) := by decide +kernel
theorem dX7_fallsBy_15 : decode cX7_fallsBy 15 = .ok (.invokevirtual 43, 3) := by decide +kernel
theorem dX7_fallsBy_18 : decode cX7_fallsBy 18 = .ok (.ifCond .eq 8, 3) := by decide +kernel
theorem dX7_fallsBy_21 : decode cX7_fallsBy 21 = .ok (.bipush (-4), 2) := by decide +kernel
theorem dX7_fallsBy_23 : decode cX7_fallsBy 23 = .ok (.goto 8, 3) := by decide +kernel
theorem dX7_fallsBy_26 : decode cX7_fallsBy 26 = .ok (.aload_n 0, 1) := by decide +kernel
theorem dX7_fallsBy_27 : decode cX7_fallsBy 27 = .ok (.iload_n 1, 1) := by decide +kernel
theorem dX7_fallsBy_28 : decode cX7_fallsBy 28 = .ok (.invokevirtual 136, 3) := by decide +kernel
theorem dX7_fallsBy_31 : decode cX7_fallsBy 31 = .ok (.istore_n 2, 1) := by decide +kernel
theorem dX7_fallsBy_32 : decode cX7_fallsBy 32 = .ok (.iload_n 2, 1) := by decide +kernel
theorem dX7_fallsBy_33 : decode cX7_fallsBy 33 = .ok (.bipush (-4), 2) := by decide +kernel
theorem dX7_fallsBy_35 : decode cX7_fallsBy 35 = .ok (.if_icmp .eq 10, 3) := by decide +kernel
theorem dX7_fallsBy_38 : decode cX7_fallsBy 38 = .ok (.bipush 10, 2) := by decide +kernel
theorem dX7_fallsBy_40 : decode cX7_fallsBy 40 = .ok (.iload_n 1, 1) := by decide +kernel
theorem dX7_fallsBy_41 : decode cX7_fallsBy 41 = .ok (.imul, 1) := by decide +kernel
theorem dX7_fallsBy_42 : decode cX7_fallsBy 42 = .ok (.iload_n 2, 1) := by decide +kernel
theorem dX7_fallsBy_43 : decode cX7_fallsBy 43 = .ok (.iadd, 1) := by decide +kernel
theorem dX7_fallsBy_44 : decode cX7_fallsBy 44 = .ok (.ireturn, 1) := by decide +kernel
theorem dX7_fallsBy_45 : decode cX7_fallsBy 45 = .ok (.iinc 1 1, 3) := by decide +kernel
theorem dX7_fallsBy_48 : decode cX7_fallsBy 48 = .ok (.goto (-46), 3) := by decide +kernel
theorem dX7_fallsBy_51 : decode cX7_fallsBy 51 = .ok (.bipush (-4), 2) := by decide +kernel
theorem dX7_fallsBy_53 : decode cX7_fallsBy 53 = .ok (.ireturn, 1) := by decide +kernel
set_option maxRecDepth 20000 in
theorem ggX7_firstDrawn_X7_leastNotBarred : GoodIn wsX7_firstDrawn wsX7_leastNotBarred := goodIn_r _ [10, 1, 2, 3, 11, 12, 13, 9, 14, 4, 5, 15, 16, 17, 18, 19, 20, 21, 22, 23, 24, 25, 26, 27, 28, 29, 30, 31, 32, 33, 34, 35, 36, 37, 38, 39, 40, 41, 42, 43, 44, 45, 46, 47, 48, 49, 50, 51, 52, 53, 54, 55, 56, 57, 58, 59, 60, 61, 62, 63, 64, 65, 66, 67, 68, 69, 70, 71, 72, 73] (by decide +kernel) (by decide +kernel)
set_option maxRecDepth 20000 in
theorem gX7_firstDrawn_X7_leastNotBarred : GoodIn wsX7_firstDrawn (wsV RX7 139 RX7 yX7_leastNotBarred wsX7_leastNotBarred) := goodIn_app (goodIn_of _ (by decide +kernel)) ggX7_firstDrawn_X7_leastNotBarred
set_option maxRecDepth 20000 in
theorem ggX7_firstDrawn_X7_ownUnder : GoodIn wsX7_firstDrawn wsX7_ownUnder := goodIn_r _ [29, 30, 31, 32, 33, 9, 34, 35, 36, 51, 52, 53, 54, 55, 56, 57, 58, 59, 60, 61, 62, 63, 64] (by decide +kernel) (by decide +kernel)
set_option maxRecDepth 20000 in
theorem gX7_firstDrawn_X7_ownUnder : GoodIn wsX7_firstDrawn (wsV RX7 130 RX7 yX7_ownUnder wsX7_ownUnder) := goodIn_app (goodIn_of _ (by decide +kernel)) ggX7_firstDrawn_X7_ownUnder
set_option maxRecDepth 20000 in
theorem ggX7_firstDrawn_X7_ownTop : GoodIn wsX7_firstDrawn wsX7_ownTop := goodIn_r _ [40, 30, 41, 42, 43, 9, 44, 45, 1, 46, 5, 47, 48, 35, 49, 50, 3, 4, 36, 51, 52, 53, 54, 55, 56, 57, 58, 59, 60, 61, 62, 63, 64, 65, 66, 67, 68, 69, 70, 71, 72, 73] (by decide +kernel) (by decide +kernel)
set_option maxRecDepth 20000 in
theorem gX7_firstDrawn_X7_ownTop : GoodIn wsX7_firstDrawn (wsV RX7 133 RX7 yX7_ownTop wsX7_ownTop) := goodIn_app (goodIn_of _ (by decide +kernel)) ggX7_firstDrawn_X7_ownTop
theorem dX7_firstDrawn_0 : decode cX7_firstDrawn 0 = .ok (.aload_n 0, 1) := by decide +kernel
theorem dX7_firstDrawn_1 : decode cX7_firstDrawn 1 = .ok (.iload_n 1, 1) := by decide +kernel
theorem dX7_firstDrawn_2 : decode cX7_firstDrawn 2 = .ok (.invokevirtual 139, 3) := by decide +kernel
theorem dX7_firstDrawn_5 : decode cX7_firstDrawn 5 = .ok (.istore_n 2, 1) := by decide +kernel
theorem dX7_firstDrawn_6 : decode cX7_firstDrawn 6 = .ok (.iload_n 2, 1) := by decide +kernel
theorem dX7_firstDrawn_7 : decode cX7_firstDrawn 7 = .ok (.bipush (-4), 2) := by decide +kernel
theorem dX7_firstDrawn_9 : decode cX7_firstDrawn 9 = .ok (.if_icmp .ne 6, 3) := by decide +kernel
theorem dX7_firstDrawn_12 : decode cX7_firstDrawn 12 = .ok (.bipush (-4), 2) := by decide +kernel
theorem dX7_firstDrawn_14 : decode cX7_firstDrawn 14 = .ok (.ireturn, 1) := by decide +kernel
theorem dX7_firstDrawn_15 : decode cX7_firstDrawn 15 = .ok (.iconst 0, 1) := by decide +kernel
theorem dX7_firstDrawn_16 : decode cX7_firstDrawn 16 = .ok (.istore_n 3, 1) := by decide +kernel
theorem dX7_firstDrawn_17 : decode cX7_firstDrawn 17 = .ok (.iload_n 3, 1) := by decide +kernel
theorem dX7_firstDrawn_18 : decode cX7_firstDrawn 18 = .ok (.aload_n 0, 1) := by decide +kernel
theorem dX7_firstDrawn_19 : decode cX7_firstDrawn 19 = .ok (.getfield 29, 3) := by decide +kernel
theorem dX7_firstDrawn_22 : decode cX7_firstDrawn 22 = .ok (.getfield 60, 3) := by decide +kernel
theorem dX7_firstDrawn_25 : decode cX7_firstDrawn 25 = .ok (.if_icmp .ge 62, 3) := by decide +kernel
theorem dX7_firstDrawn_28 : decode cX7_firstDrawn 28 = .ok (.aload_n 0, 1) := by decide +kernel
theorem dX7_firstDrawn_29 : decode cX7_firstDrawn 29 = .ok (.getfield 29, 3) := by decide +kernel
theorem dX7_firstDrawn_32 : decode cX7_firstDrawn 32 = .ok (.getfield 66, 3) := by decide +kernel
theorem dX7_firstDrawn_35 : decode cX7_firstDrawn 35 = .ok (.iload_n 2, 1) := by decide +kernel
theorem dX7_firstDrawn_36 : decode cX7_firstDrawn 36 = .ok (.iaload, 1) := by decide +kernel
theorem dX7_firstDrawn_37 : decode cX7_firstDrawn 37 = .ok (.aload_n 0, 1) := by decide +kernel
theorem dX7_firstDrawn_38 : decode cX7_firstDrawn 38 = .ok (.getfield 29, 3) := by decide +kernel
theorem dX7_firstDrawn_41 : decode cX7_firstDrawn 41 = .ok (.getfield 54, 3) := by decide +kernel
theorem dX7_firstDrawn_44 : decode cX7_firstDrawn 44 = .ok (.iload_n 1, 1) := by decide +kernel
theorem dX7_firstDrawn_45 : decode cX7_firstDrawn 45 = .ok (.iaload, 1) := by decide +kernel
theorem dX7_firstDrawn_46 : decode cX7_firstDrawn 46 = .ok (.iadd, 1) := by decide +kernel
theorem dX7_firstDrawn_47 : decode cX7_firstDrawn 47 = .ok (.aload_n 0, 1) := by decide +kernel
theorem dX7_firstDrawn_48 : decode cX7_firstDrawn 48 = .ok (.getfield 29, 3) := by decide +kernel
theorem dX7_firstDrawn_51 : decode cX7_firstDrawn 51 = .ok (.getfield 100, 3) := by decide +kernel
theorem dX7_firstDrawn_54 : decode cX7_firstDrawn 54 = .ok (.iload_n 1, 1) := by decide +kernel
theorem dX7_firstDrawn_55 : decode cX7_firstDrawn 55 = .ok (.aaload, 1) := by decide +kernel
theorem dX7_firstDrawn_56 : decode cX7_firstDrawn 56 = .ok (.iload_n 3, 1) := by decide +kernel
theorem dX7_firstDrawn_57 : decode cX7_firstDrawn 57 = .ok (.iaload, 1) := by decide +kernel
theorem dX7_firstDrawn_58 : decode cX7_firstDrawn 58 = .ok (.isub, 1) := by decide +kernel
theorem dX7_firstDrawn_59 : decode cX7_firstDrawn 59 = .ok (.i2l, 1) := by decide +kernel
theorem dX7_firstDrawn_60 : decode cX7_firstDrawn 60 = .ok (.lstore 4, 2) := by decide +kernel
theorem dX7_firstDrawn_62 : decode cX7_firstDrawn 62 = .ok (.lload 4, 2) := by decide +kernel
theorem dX7_firstDrawn_64 : decode cX7_firstDrawn 64 = .ok (.aload_n 0, 1) := by decide +kernel
theorem dX7_firstDrawn_65 : decode cX7_firstDrawn 65 = .ok (.iload_n 3, 1) := by decide +kernel
theorem dX7_firstDrawn_66 : decode cX7_firstDrawn 66 = .ok (.invokevirtual 130, 3) := by decide +kernel
theorem dX7_firstDrawn_69 : decode cX7_firstDrawn 69 = .ok (.lmul, 1) := by decide +kernel
theorem dX7_firstDrawn_70 : decode cX7_firstDrawn 70 = .ok (.aload_n 0, 1) := by decide +kernel
theorem dX7_firstDrawn_71 : decode cX7_firstDrawn 71 = .ok (.iload_n 3, 1) := by decide +kernel
theorem dX7_firstDrawn_72 : decode cX7_firstDrawn 72 = .ok (.invokevirtual 133, 3) := by decide +kernel
theorem dX7_firstDrawn_75 : decode cX7_firstDrawn 75 = .ok (.lcmp, 1) := by decide +kernel
theorem dX7_firstDrawn_76 : decode cX7_firstDrawn 76 = .ok (.ifCond .le 5, 3) := by decide +kernel
theorem dX7_firstDrawn_79 : decode cX7_firstDrawn 79 = .ok (.iload_n 3, 1) := by decide +kernel
theorem dX7_firstDrawn_80 : decode cX7_firstDrawn 80 = .ok (.ireturn, 1) := by decide +kernel
theorem dX7_firstDrawn_81 : decode cX7_firstDrawn 81 = .ok (.iinc 3 1, 3) := by decide +kernel
theorem dX7_firstDrawn_84 : decode cX7_firstDrawn 84 = .ok (.goto (-67), 3) := by decide +kernel
theorem dX7_firstDrawn_87 : decode cX7_firstDrawn 87 = .ok (.bipush (-4), 2) := by decide +kernel
theorem dX7_firstDrawn_89 : decode cX7_firstDrawn 89 = .ok (.ireturn, 1) := by decide +kernel
set_option maxRecDepth 20000 in
theorem ggX7_leastNotBarred_X7_isBarred : GoodIn wsX7_leastNotBarred wsX7_isBarred := goodIn_r _ [8, 1, 9, 10, 11, 12, 13, 14, 15, 16, 17, 18, 19, 20, 21, 22, 23, 24, 7, 25, 26, 27, 28, 29, 30, 31, 32, 33, 34, 35, 36, 37, 38, 39, 40, 41, 42, 43, 44, 45, 46, 3, 47, 48, 49, 50, 51, 52, 53, 54, 55, 56, 57, 58, 59, 60, 61, 62, 63, 64, 65, 66, 67, 68, 69] (by decide +kernel) (by decide +kernel)
set_option maxRecDepth 20000 in
theorem gX7_leastNotBarred_X7_isBarred : GoodIn wsX7_leastNotBarred (wsV RX7 142 RX7 yX7_isBarred wsX7_isBarred) := goodIn_app (goodIn_of _ (by decide +kernel)) ggX7_leastNotBarred_X7_isBarred
theorem dX7_leastNotBarred_0 : decode cX7_leastNotBarred 0 = .ok (.bipush (-4), 2) := by decide +kernel
theorem dX7_leastNotBarred_2 : decode cX7_leastNotBarred 2 = .ok (.istore_n 2, 1) := by decide +kernel
theorem dX7_leastNotBarred_3 : decode cX7_leastNotBarred 3 = .ok (.iconst 0, 1) := by decide +kernel
theorem dX7_leastNotBarred_4 : decode cX7_leastNotBarred 4 = .ok (.istore_n 3, 1) := by decide +kernel
theorem dX7_leastNotBarred_5 : decode cX7_leastNotBarred 5 = .ok (.iload_n 3, 1) := by decide +kernel
theorem dX7_leastNotBarred_6 : decode cX7_leastNotBarred 6 = .ok (.aload_n 0, 1) := by decide +kernel
theorem dX7_leastNotBarred_7 : decode cX7_leastNotBarred 7 = .ok (.getfield 29, 3) := by decide +kernel
theorem dX7_leastNotBarred_10 : decode cX7_leastNotBarred 10 = .ok (.getfield 60, 3) := by decide +kernel
theorem dX7_leastNotBarred_13 : decode cX7_leastNotBarred 13 = .ok (.if_icmp .ge 59, 3) := by decide +kernel
theorem dX7_leastNotBarred_16 : decode cX7_leastNotBarred 16 = .ok (.iload_n 2, 1) := by decide +kernel
theorem dX7_leastNotBarred_17 : decode cX7_leastNotBarred 17 = .ok (.bipush (-4), 2) := by decide +kernel
theorem dX7_leastNotBarred_19 : decode cX7_leastNotBarred 19 = .ok (.if_icmp .eq 24, 3) := by decide +kernel
theorem dX7_leastNotBarred_22 : decode cX7_leastNotBarred 22 = .ok (.aload_n 0, 1) := by decide +kernel
theorem dX7_leastNotBarred_23 : decode cX7_leastNotBarred 23 = .ok (.getfield 29, 3) := by decide +kernel
theorem dX7_leastNotBarred_26 : decode cX7_leastNotBarred 26 = .ok (.getfield 66, 3) := by decide +kernel
theorem dX7_leastNotBarred_29 : decode cX7_leastNotBarred 29 = .ok (.iload_n 3, 1) := by decide +kernel
theorem dX7_leastNotBarred_30 : decode cX7_leastNotBarred 30 = .ok (.iaload, 1) := by decide +kernel
theorem dX7_leastNotBarred_31 : decode cX7_leastNotBarred 31 = .ok (.aload_n 0, 1) := by decide +kernel
theorem dX7_leastNotBarred_32 : decode cX7_leastNotBarred 32 = .ok (.getfield 29, 3) := by decide +kernel
theorem dX7_leastNotBarred_35 : decode cX7_leastNotBarred 35 = .ok (.getfield 66, 3) := by decide +kernel
theorem dX7_leastNotBarred_38 : decode cX7_leastNotBarred 38 = .ok (.iload_n 2, 1) := by decide +kernel
theorem dX7_leastNotBarred_39 : decode cX7_leastNotBarred 39 = .ok (.iaload, 1) := by decide +kernel
theorem dX7_leastNotBarred_40 : decode cX7_leastNotBarred 40 = .ok (.if_icmp .ge 7, 3) := by decide +kernel
theorem dX7_leastNotBarred_43 : decode cX7_leastNotBarred 43 = .ok (.iconst 1, 1) := by decide +kernel
theorem dX7_leastNotBarred_44 : decode cX7_leastNotBarred 44 = .ok (.goto 4, 3) := by decide +kernel
theorem dX7_leastNotBarred_47 : decode cX7_leastNotBarred 47 = .ok (.iconst 0, 1) := by decide +kernel
theorem dX7_leastNotBarred_48 : decode cX7_leastNotBarred 48 = .ok (.istore 4, 2) := by decide +kernel
theorem dX7_leastNotBarred_50 : decode cX7_leastNotBarred 50 = .ok (.iload 4, 2) := by decide +kernel
theorem dX7_leastNotBarred_52 : decode cX7_leastNotBarred 52 = .ok (.ifCond .eq 14, 3) := by decide +kernel
theorem dX7_leastNotBarred_55 : decode cX7_leastNotBarred 55 = .ok (.aload_n 0, 1) := by decide +kernel
theorem dX7_leastNotBarred_56 : decode cX7_leastNotBarred 56 = .ok (.iload_n 1, 1) := by decide +kernel
theorem dX7_leastNotBarred_57 : decode cX7_leastNotBarred 57 = .ok (.iload_n 3, 1) := by decide +kernel
theorem dX7_leastNotBarred_58 : decode cX7_leastNotBarred 58 = .ok (.invokevirtual 142, 3) := by decide +kernel
theorem dX7_leastNotBarred_61 : decode cX7_leastNotBarred 61 = .ok (.ifCond .ne 5, 3) := by decide +kernel
theorem dX7_leastNotBarred_64 : decode cX7_leastNotBarred 64 = .ok (.iload_n 3, 1) := by decide +kernel
theorem dX7_leastNotBarred_65 : decode cX7_leastNotBarred 65 = .ok (.istore_n 2, 1) := by decide +kernel
theorem dX7_leastNotBarred_66 : decode cX7_leastNotBarred 66 = .ok (.iinc 3 1, 3) := by decide +kernel
theorem dX7_leastNotBarred_69 : decode cX7_leastNotBarred 69 = .ok (.goto (-64), 3) := by decide +kernel
theorem dX7_leastNotBarred_72 : decode cX7_leastNotBarred 72 = .ok (.iload_n 2, 1) := by decide +kernel
theorem dX7_leastNotBarred_73 : decode cX7_leastNotBarred 73 = .ok (.ireturn, 1) := by decide +kernel
set_option maxRecDepth 20000 in
theorem ggX7_drawsLots_X7_isMade : GoodIn wsX7_drawsLots wsX7_isMade := goodIn_r _ [18, 19, 20, 21, 22, 23, 24, 25, 26, 27, 28, 29, 30, 31, 32, 33] (by decide +kernel) (by decide +kernel)
set_option maxRecDepth 20000 in
theorem gX7_drawsLots_X7_isMade : GoodIn wsX7_drawsLots (wsV RX7 43 RX7 yX7_isMade wsX7_isMade) := goodIn_app (goodIn_of _ (by decide +kernel)) ggX7_drawsLots_X7_isMade
theorem dX7_drawsLots_0 : decode cX7_drawsLots 0 = .ok (.aload_n 0, 1) := by decide +kernel
theorem dX7_drawsLots_1 : decode cX7_drawsLots 1 = .ok (.getfield 9, 3) := by decide +kernel
theorem dX7_drawsLots_4 : decode cX7_drawsLots 4 = .ok (.iload_n 1, 1) := by decide +kernel
theorem dX7_drawsLots_5 : decode cX7_drawsLots 5 = .ok (.iaload, 1) := by decide +kernel
theorem dX7_drawsLots_6 : decode cX7_drawsLots 6 = .ok (.istore_n 3, 1) := by decide +kernel
theorem dX7_drawsLots_7 : decode cX7_drawsLots 7 = .ok (.iload_n 3, 1) := by decide +kernel
theorem dX7_drawsLots_8 : decode cX7_drawsLots 8 = .ok (.iconst 4, 1) := by decide +kernel
theorem dX7_drawsLots_9 : decode cX7_drawsLots 9 = .ok (.if_icmp .eq 11, 3) := by decide +kernel
theorem dX7_drawsLots_12 : decode cX7_drawsLots 12 = .ok (.aload_n 0, 1) := by decide +kernel
theorem dX7_drawsLots_13 : decode cX7_drawsLots 13 = .ok (.iload_n 2, 1) := by decide +kernel
theorem dX7_drawsLots_14 : decode cX7_drawsLots 14 = .ok (.invokevirtual 43, 3) := by decide +kernel
theorem dX7_drawsLots_17 : decode cX7_drawsLots 17 = .ok (.ifCond .eq 5, 3) := by decide +kernel
theorem dX7_drawsLots_20 : decode cX7_drawsLots 20 = .ok (.iconst 0, 1) := by decide +kernel
theorem dX7_drawsLots_21 : decode cX7_drawsLots 21 = .ok (.ireturn, 1) := by decide +kernel
theorem dX7_drawsLots_22 : decode cX7_drawsLots 22 = .ok (.aload_n 0, 1) := by decide +kernel
theorem dX7_drawsLots_23 : decode cX7_drawsLots 23 = .ok (.getfield 29, 3) := by decide +kernel
theorem dX7_drawsLots_26 : decode cX7_drawsLots 26 = .ok (.getfield 66, 3) := by decide +kernel
theorem dX7_drawsLots_29 : decode cX7_drawsLots 29 = .ok (.iload_n 1, 1) := by decide +kernel
theorem dX7_drawsLots_30 : decode cX7_drawsLots 30 = .ok (.iaload, 1) := by decide +kernel
theorem dX7_drawsLots_31 : decode cX7_drawsLots 31 = .ok (.aload_n 0, 1) := by decide +kernel
theorem dX7_drawsLots_32 : decode cX7_drawsLots 32 = .ok (.getfield 29, 3) := by decide +kernel
theorem dX7_drawsLots_35 : decode cX7_drawsLots 35 = .ok (.getfield 54, 3) := by decide +kernel
theorem dX7_drawsLots_38 : decode cX7_drawsLots 38 = .ok (.iload_n 2, 1) := by decide +kernel
theorem dX7_drawsLots_39 : decode cX7_drawsLots 39 = .ok (.iaload, 1) := by decide +kernel
theorem dX7_drawsLots_40 : decode cX7_drawsLots 40 = .ok (.iadd, 1) := by decide +kernel
theorem dX7_drawsLots_41 : decode cX7_drawsLots 41 = .ok (.aload_n 0, 1) := by decide +kernel
theorem dX7_drawsLots_42 : decode cX7_drawsLots 42 = .ok (.getfield 29, 3) := by decide +kernel
theorem dX7_drawsLots_45 : decode cX7_drawsLots 45 = .ok (.getfield 100, 3) := by decide +kernel
theorem dX7_drawsLots_48 : decode cX7_drawsLots 48 = .ok (.iload_n 2, 1) := by decide +kernel
theorem dX7_drawsLots_49 : decode cX7_drawsLots 49 = .ok (.aaload, 1) := by decide +kernel
theorem dX7_drawsLots_50 : decode cX7_drawsLots 50 = .ok (.iload_n 1, 1) := by decide +kernel
theorem dX7_drawsLots_51 : decode cX7_drawsLots 51 = .ok (.iaload, 1) := by decide +kernel
theorem dX7_drawsLots_52 : decode cX7_drawsLots 52 = .ok (.isub, 1) := by decide +kernel
theorem dX7_drawsLots_53 : decode cX7_drawsLots 53 = .ok (.aload_n 0, 1) := by decide +kernel
theorem dX7_drawsLots_54 : decode cX7_drawsLots 54 = .ok (.getfield 29, 3) := by decide +kernel
theorem dX7_drawsLots_57 : decode cX7_drawsLots 57 = .ok (.getfield 100, 3) := by decide +kernel
theorem dX7_drawsLots_60 : decode cX7_drawsLots 60 = .ok (.iload_n 3, 1) := by decide +kernel
theorem dX7_drawsLots_61 : decode cX7_drawsLots 61 = .ok (.aaload, 1) := by decide +kernel
theorem dX7_drawsLots_62 : decode cX7_drawsLots 62 = .ok (.iload_n 1, 1) := by decide +kernel
theorem dX7_drawsLots_63 : decode cX7_drawsLots 63 = .ok (.iaload, 1) := by decide +kernel
theorem dX7_drawsLots_64 : decode cX7_drawsLots 64 = .ok (.iadd, 1) := by decide +kernel
theorem dX7_drawsLots_65 : decode cX7_drawsLots 65 = .ok (.aload_n 0, 1) := by decide +kernel
theorem dX7_drawsLots_66 : decode cX7_drawsLots 66 = .ok (.getfield 29, 3) := by decide +kernel
theorem dX7_drawsLots_69 : decode cX7_drawsLots 69 = .ok (.getfield 54, 3) := by decide +kernel
theorem dX7_drawsLots_72 : decode cX7_drawsLots 72 = .ok (.iload_n 3, 1) := by decide +kernel
theorem dX7_drawsLots_73 : decode cX7_drawsLots 73 = .ok (.iaload, 1) := by decide +kernel
theorem dX7_drawsLots_74 : decode cX7_drawsLots 74 = .ok (.isub, 1) := by decide +kernel
theorem dX7_drawsLots_75 : decode cX7_drawsLots 75 = .ok (.istore 4, 2) := by decide +kernel
theorem dX7_drawsLots_77 : decode cX7_drawsLots 77 = .ok (.lconst 0, 1) := by decide +kernel
theorem dX7_drawsLots_78 : decode cX7_drawsLots 78 = .ok (.lstore 5, 2) := by decide +kernel
theorem dX7_drawsLots_80 : decode cX7_drawsLots 80 = .ok (.iconst 0, 1) := by decide +kernel
theorem dX7_drawsLots_81 : decode cX7_drawsLots 81 = .ok (.istore 7, 2) := by decide +kernel
theorem dX7_drawsLots_83 : decode cX7_drawsLots 83 = .ok (.iload 7, 2) := by decide +kernel
theorem dX7_drawsLots_85 : decode cX7_drawsLots 85 = .ok (.aload_n 0, 1) := by decide +kernel
theorem dX7_drawsLots_86 : decode cX7_drawsLots 86 = .ok (.getfield 29, 3) := by decide +kernel
theorem dX7_drawsLots_89 : decode cX7_drawsLots 89 = .ok (.getfield 60, 3) := by decide +kernel
theorem dX7_drawsLots_92 : decode cX7_drawsLots 92 = .ok (.if_icmp .ge 56, 3) := by decide +kernel
theorem dX7_drawsLots_95 : decode cX7_drawsLots 95 = .ok (.iload 7, 2) := by decide +kernel
theorem dX7_drawsLots_97 : decode cX7_drawsLots 97 = .ok (.iload_n 1, 1) := by decide +kernel
theorem dX7_drawsLots_98 : decode cX7_drawsLots 98 = .ok (.if_icmp .eq 44, 3) := by decide +kernel
theorem dX7_drawsLots_101 : decode cX7_drawsLots 101 = .ok (.aload_n 0, 1) := by decide +kernel
theorem dX7_drawsLots_102 : decode cX7_drawsLots 102 = .ok (.getfield 9, 3) := by decide +kernel
theorem dX7_drawsLots_105 : decode cX7_drawsLots 105 = .ok (.iload 7, 2) := by decide +kernel
theorem dX7_drawsLots_107 : decode cX7_drawsLots 107 = .ok (.iaload, 1) := by decide +kernel
theorem dX7_drawsLots_108 : decode cX7_drawsLots 108 = .ok (.iload_n 3, 1) := by decide +kernel
theorem dX7_drawsLots_109 : decode cX7_drawsLots 109 = .ok (.if_icmp .ne 33, 3) := by decide +kernel
theorem dX7_drawsLots_112 : decode cX7_drawsLots 112 = .ok (.lload 5, 2) := by decide +kernel
theorem dX7_drawsLots_114 : decode cX7_drawsLots 114 = .ok (.aload_n 0, 1) := by decide +kernel
theorem dX7_drawsLots_115 : decode cX7_drawsLots 115 = .ok (.getfield 29, 3) := by decide +kernel
theorem dX7_drawsLots_118 : decode cX7_drawsLots 118 = .ok (.getfield 63, 3) := by decide +kernel
theorem dX7_drawsLots_121 : decode cX7_drawsLots 121 = .ok (.iload 7, 2) := by decide +kernel
theorem dX7_drawsLots_123 : decode cX7_drawsLots 123 = .ok (.iaload, 1) := by decide +kernel
theorem dX7_drawsLots_124 : decode cX7_drawsLots 124 = .ok (.aload_n 0, 1) := by decide +kernel
theorem dX7_drawsLots_125 : decode cX7_drawsLots 125 = .ok (.getfield 29, 3) := by decide +kernel
theorem dX7_drawsLots_128 : decode cX7_drawsLots 128 = .ok (.getfield 66, 3) := by decide +kernel
theorem dX7_drawsLots_131 : decode cX7_drawsLots 131 = .ok (.iload 7, 2) := by decide +kernel
theorem dX7_drawsLots_133 : decode cX7_drawsLots 133 = .ok (.iaload, 1) := by decide +kernel
theorem dX7_drawsLots_134 : decode cX7_drawsLots 134 = .ok (.iload 4, 2) := by decide +kernel
theorem dX7_drawsLots_136 : decode cX7_drawsLots 136 = .ok (.isub, 1) := by decide +kernel
theorem dX7_drawsLots_137 : decode cX7_drawsLots 137 = .ok (.imul, 1) := by decide +kernel
theorem dX7_drawsLots_138 : decode cX7_drawsLots 138 = .ok (.i2l, 1) := by decide +kernel
theorem dX7_drawsLots_139 : decode cX7_drawsLots 139 = .ok (.ladd, 1) := by decide +kernel
theorem dX7_drawsLots_140 : decode cX7_drawsLots 140 = .ok (.lstore 5, 2) := by decide +kernel
theorem dX7_drawsLots_142 : decode cX7_drawsLots 142 = .ok (.iinc 7 1, 3) := by decide +kernel
theorem dX7_drawsLots_145 : decode cX7_drawsLots 145 = .ok (.goto (-62), 3) := by decide +kernel
theorem dX7_drawsLots_148 : decode cX7_drawsLots 148 = .ok (.aload_n 0, 1) := by decide +kernel
theorem dX7_drawsLots_149 : decode cX7_drawsLots 149 = .ok (.getfield 29, 3) := by decide +kernel
theorem dX7_drawsLots_152 : decode cX7_drawsLots 152 = .ok (.getfield 63, 3) := by decide +kernel
theorem dX7_drawsLots_155 : decode cX7_drawsLots 155 = .ok (.iload_n 1, 1) := by decide +kernel
theorem dX7_drawsLots_156 : decode cX7_drawsLots 156 = .ok (.iaload, 1) := by decide +kernel
theorem dX7_drawsLots_157 : decode cX7_drawsLots 157 = .ok (.iload 4, 2) := by decide +kernel
theorem dX7_drawsLots_159 : decode cX7_drawsLots 159 = .ok (.aload_n 0, 1) := by decide +kernel
theorem dX7_drawsLots_160 : decode cX7_drawsLots 160 = .ok (.getfield 29, 3) := by decide +kernel
theorem dX7_drawsLots_163 : decode cX7_drawsLots 163 = .ok (.getfield 66, 3) := by decide +kernel
theorem dX7_drawsLots_166 : decode cX7_drawsLots 166 = .ok (.iload_n 1, 1) := by decide +kernel
theorem dX7_drawsLots_167 : decode cX7_drawsLots 167 = .ok (.iaload, 1) := by decide +kernel
theorem dX7_drawsLots_168 : decode cX7_drawsLots 168 = .ok (.isub, 1) := by decide +kernel
theorem dX7_drawsLots_169 : decode cX7_drawsLots 169 = .ok (.imul, 1) := by decide +kernel
theorem dX7_drawsLots_170 : decode cX7_drawsLots 170 = .ok (.i2l, 1) := by decide +kernel
theorem dX7_drawsLots_171 : decode cX7_drawsLots 171 = .ok (.lstore 7, 2) := by decide +kernel
theorem dX7_drawsLots_173 : decode cX7_drawsLots 173 = .ok (.aload_n 0, 1) := by decide +kernel
theorem dX7_drawsLots_174 : decode cX7_drawsLots 174 = .ok (.lload 7, 2) := by decide +kernel
theorem dX7_drawsLots_176 : decode cX7_drawsLots 176 = .ok (.lconst 0, 1) := by decide +kernel
theorem dX7_drawsLots_177 : decode cX7_drawsLots 177 = .ok (.lcmp, 1) := by decide +kernel
theorem dX7_drawsLots_178 : decode cX7_drawsLots 178 = .ok (.ifCond .ge 9, 3) := by decide +kernel
theorem dX7_drawsLots_181 : decode cX7_drawsLots 181 = .ok (.lload 5, 2) := by decide +kernel
theorem dX7_drawsLots_183 : decode cX7_drawsLots 183 = .ok (.lneg, 1) := by decide +kernel
theorem dX7_drawsLots_184 : decode cX7_drawsLots 184 = .ok (.goto 5, 3) := by decide +kernel
theorem dX7_drawsLots_187 : decode cX7_drawsLots 187 = .ok (.lload 5, 2) := by decide +kernel
theorem dX7_drawsLots_189 : decode cX7_drawsLots 189 = .ok (.putfield 146, 3) := by decide +kernel
theorem dX7_drawsLots_192 : decode cX7_drawsLots 192 = .ok (.aload_n 0, 1) := by decide +kernel
theorem dX7_drawsLots_193 : decode cX7_drawsLots 193 = .ok (.lload 7, 2) := by decide +kernel
theorem dX7_drawsLots_195 : decode cX7_drawsLots 195 = .ok (.invokestatic 149, 3) := by decide +kernel
theorem dX7_drawsLots_198 : decode cX7_drawsLots 198 = .ok (.putfield 153, 3) := by decide +kernel
theorem dX7_drawsLots_201 : decode cX7_drawsLots 201 = .ok (.aload_n 0, 1) := by decide +kernel
theorem dX7_drawsLots_202 : decode cX7_drawsLots 202 = .ok (.getfield 146, 3) := by decide +kernel
theorem dX7_drawsLots_205 : decode cX7_drawsLots 205 = .ok (.lconst 0, 1) := by decide +kernel
theorem dX7_drawsLots_206 : decode cX7_drawsLots 206 = .ok (.lcmp, 1) := by decide +kernel
theorem dX7_drawsLots_207 : decode cX7_drawsLots 207 = .ok (.ifCond .le 19, 3) := by decide +kernel
theorem dX7_drawsLots_210 : decode cX7_drawsLots 210 = .ok (.aload_n 0, 1) := by decide +kernel
theorem dX7_drawsLots_211 : decode cX7_drawsLots 211 = .ok (.getfield 146, 3) := by decide +kernel
theorem dX7_drawsLots_214 : decode cX7_drawsLots 214 = .ok (.aload_n 0, 1) := by decide +kernel
theorem dX7_drawsLots_215 : decode cX7_drawsLots 215 = .ok (.getfield 153, 3) := by decide +kernel
theorem dX7_drawsLots_218 : decode cX7_drawsLots 218 = .ok (.lcmp, 1) := by decide +kernel
theorem dX7_drawsLots_219 : decode cX7_drawsLots 219 = .ok (.ifCond .ge 7, 3) := by decide +kernel
theorem dX7_drawsLots_222 : decode cX7_drawsLots 222 = .ok (.iconst 1, 1) := by decide +kernel
theorem dX7_drawsLots_223 : decode cX7_drawsLots 223 = .ok (.goto 4, 3) := by decide +kernel
theorem dX7_drawsLots_226 : decode cX7_drawsLots 226 = .ok (.iconst 0, 1) := by decide +kernel
theorem dX7_drawsLots_227 : decode cX7_drawsLots 227 = .ok (.ireturn, 1) := by decide +kernel
set_option maxRecDepth 20000 in
theorem ggX7_waysByLots_X7_drawsLots : GoodIn wsX7_waysByLots wsX7_drawsLots := goodIn_r _ [8, 9, 1, 10, 11, 12, 2, 13, 14, 15, 16, 17, 18, 19, 20, 21, 22, 7, 23, 24, 25, 26, 27, 28, 29, 30, 31, 32, 33, 34, 35, 36, 37, 38, 39, 40, 41, 42, 43, 44, 45, 46, 47] (by decide +kernel) (by decide +kernel)
set_option maxRecDepth 20000 in
theorem gX7_waysByLots_X7_drawsLots : GoodIn wsX7_waysByLots (wsV RX7 156 RX7 yX7_drawsLots wsX7_drawsLots) := goodIn_app (goodIn_of _ (by decide +kernel)) ggX7_waysByLots_X7_drawsLots
theorem dX7_waysByLots_0 : decode cX7_waysByLots 0 = .ok (.iconst 0, 1) := by decide +kernel
theorem dX7_waysByLots_1 : decode cX7_waysByLots 1 = .ok (.istore_n 1, 1) := by decide +kernel
theorem dX7_waysByLots_2 : decode cX7_waysByLots 2 = .ok (.iconst 0, 1) := by decide +kernel
theorem dX7_waysByLots_3 : decode cX7_waysByLots 3 = .ok (.istore_n 2, 1) := by decide +kernel
theorem dX7_waysByLots_4 : decode cX7_waysByLots 4 = .ok (.iload_n 2, 1) := by decide +kernel
theorem dX7_waysByLots_5 : decode cX7_waysByLots 5 = .ok (.aload_n 0, 1) := by decide +kernel
theorem dX7_waysByLots_6 : decode cX7_waysByLots 6 = .ok (.getfield 29, 3) := by decide +kernel
theorem dX7_waysByLots_9 : decode cX7_waysByLots 9 = .ok (.getfield 60, 3) := by decide +kernel
theorem dX7_waysByLots_12 : decode cX7_waysByLots 12 = .ok (.if_icmp .ge 40, 3) := by decide +kernel
theorem dX7_waysByLots_15 : decode cX7_waysByLots 15 = .ok (.iconst 0, 1) := by decide +kernel
theorem dX7_waysByLots_16 : decode cX7_waysByLots 16 = .ok (.istore_n 3, 1) := by decide +kernel
theorem dX7_waysByLots_17 : decode cX7_waysByLots 17 = .ok (.iload_n 3, 1) := by decide +kernel
theorem dX7_waysByLots_18 : decode cX7_waysByLots 18 = .ok (.aload_n 0, 1) := by decide +kernel
theorem dX7_waysByLots_19 : decode cX7_waysByLots 19 = .ok (.getfield 29, 3) := by decide +kernel
theorem dX7_waysByLots_22 : decode cX7_waysByLots 22 = .ok (.getfield 37, 3) := by decide +kernel
theorem dX7_waysByLots_25 : decode cX7_waysByLots 25 = .ok (.if_icmp .ge 21, 3) := by decide +kernel
theorem dX7_waysByLots_28 : decode cX7_waysByLots 28 = .ok (.aload_n 0, 1) := by decide +kernel
theorem dX7_waysByLots_29 : decode cX7_waysByLots 29 = .ok (.iload_n 2, 1) := by decide +kernel
theorem dX7_waysByLots_30 : decode cX7_waysByLots 30 = .ok (.iload_n 3, 1) := by decide +kernel
theorem dX7_waysByLots_31 : decode cX7_waysByLots 31 = .ok (.invokevirtual 156, 3) := by decide +kernel
theorem dX7_waysByLots_34 : decode cX7_waysByLots 34 = .ok (.ifCond .eq 6, 3) := by decide +kernel
theorem dX7_waysByLots_37 : decode cX7_waysByLots 37 = .ok (.iinc 1 1, 3) := by decide +kernel
theorem dX7_waysByLots_40 : decode cX7_waysByLots 40 = .ok (.iinc 3 1, 3) := by decide +kernel
theorem dX7_waysByLots_43 : decode cX7_waysByLots 43 = .ok (.goto (-26), 3) := by decide +kernel
theorem dX7_waysByLots_46 : decode cX7_waysByLots 46 = .ok (.iinc 2 1, 3) := by decide +kernel
theorem dX7_waysByLots_49 : decode cX7_waysByLots 49 = .ok (.goto (-45), 3) := by decide +kernel
theorem dX7_waysByLots_52 : decode cX7_waysByLots 52 = .ok (.iload_n 1, 1) := by decide +kernel
theorem dX7_waysByLots_53 : decode cX7_waysByLots 53 = .ok (.ireturn, 1) := by decide +kernel
set_option maxRecDepth 20000 in
theorem ggX7_tellsAllApart_X7_lay : GoodIn wsX7_tellsAllApart wsX7_lay := goodIn_r _ [8, 1, 2, 3, 9, 17, 18, 19, 20, 21, 22, 23, 24, 25, 26, 27, 28, 29, 30, 31, 32, 33, 34, 35, 36, 37, 38, 39] (by decide +kernel) (by decide +kernel)
set_option maxRecDepth 20000 in
theorem gX7_tellsAllApart_X7_lay : GoodIn wsX7_tellsAllApart (wsV RX7 33 RX7 yX7_lay wsX7_lay) := goodIn_app (goodIn_of _ (by decide +kernel)) ggX7_tellsAllApart_X7_lay
set_option maxRecDepth 20000 in
theorem ggX7_tellsAllApart_J6_bitCount_0f7a4 : GoodIn wsX7_tellsAllApart wsJ6_bitCount_0f7a4 := goodIn_r _ [13, 14, 15, 16] (by decide +kernel) (by decide +kernel)
set_option maxRecDepth 20000 in
theorem gX7_tellsAllApart_J6_bitCount_0f7a4 : GoodIn wsX7_tellsAllApart (va_wsS RX7 159 yJ6_bitCount_0f7a4 wsJ6_bitCount_0f7a4) := goodIn_app (goodIn_of _ (by decide +kernel)) ggX7_tellsAllApart_J6_bitCount_0f7a4
theorem dX7_tellsAllApart_0 : decode cX7_tellsAllApart 0 = .ok (.aload_n 0, 1) := by decide +kernel
theorem dX7_tellsAllApart_1 : decode cX7_tellsAllApart 1 = .ok (.iload_n 1, 1) := by decide +kernel
theorem dX7_tellsAllApart_2 : decode cX7_tellsAllApart 2 = .ok (.invokevirtual 33, 3) := by decide +kernel
theorem dX7_tellsAllApart_5 : decode cX7_tellsAllApart 5 = .ok (.aload_n 0, 1) := by decide +kernel
theorem dX7_tellsAllApart_6 : decode cX7_tellsAllApart 6 = .ok (.getfield 57, 3) := by decide +kernel
theorem dX7_tellsAllApart_9 : decode cX7_tellsAllApart 9 = .ok (.invokestatic 159, 3) := by decide +kernel
theorem dX7_tellsAllApart_12 : decode cX7_tellsAllApart 12 = .ok (.aload_n 0, 1) := by decide +kernel
theorem dX7_tellsAllApart_13 : decode cX7_tellsAllApart 13 = .ok (.getfield 29, 3) := by decide +kernel
theorem dX7_tellsAllApart_16 : decode cX7_tellsAllApart 16 = .ok (.getfield 60, 3) := by decide +kernel
theorem dX7_tellsAllApart_19 : decode cX7_tellsAllApart 19 = .ok (.if_icmp .ne 7, 3) := by decide +kernel
theorem dX7_tellsAllApart_22 : decode cX7_tellsAllApart 22 = .ok (.iconst 1, 1) := by decide +kernel
theorem dX7_tellsAllApart_23 : decode cX7_tellsAllApart 23 = .ok (.goto 4, 3) := by decide +kernel
theorem dX7_tellsAllApart_26 : decode cX7_tellsAllApart 26 = .ok (.iconst 0, 1) := by decide +kernel
theorem dX7_tellsAllApart_27 : decode cX7_tellsAllApart 27 = .ok (.ireturn, 1) := by decide +kernel
set_option maxRecDepth 20000 in
theorem ggX7_leastLoss_X7_ownTop : GoodIn wsX7_leastLoss wsX7_ownTop := goodIn_r _ [9, 4, 10, 11, 12, 8, 13, 14, 1, 15, 16, 17, 18, 19, 20, 21, 22, 23, 24, 33, 34, 35, 36, 37, 38, 39, 40, 41, 42, 43, 44, 45, 46, 47, 48, 49, 50, 51, 52, 53, 54, 55] (by decide +kernel) (by decide +kernel)
set_option maxRecDepth 20000 in
theorem gX7_leastLoss_X7_ownTop : GoodIn wsX7_leastLoss (wsV RX7 133 RX7 yX7_ownTop wsX7_ownTop) := goodIn_app (goodIn_of _ (by decide +kernel)) ggX7_leastLoss_X7_ownTop
set_option maxRecDepth 20000 in
theorem ggX7_leastLoss_X7_underAt : GoodIn wsX7_leastLoss wsX7_underAt := goodIn_r _ [28, 19, 24, 33, 34, 35, 36, 37, 38, 39, 40, 41, 42, 43, 44, 45, 46] (by decide +kernel) (by decide +kernel)
set_option maxRecDepth 20000 in
theorem gX7_leastLoss_X7_underAt : GoodIn wsX7_leastLoss (wsV RX7 114 RX7 yX7_underAt wsX7_underAt) := goodIn_app (goodIn_of _ (by decide +kernel)) ggX7_leastLoss_X7_underAt
set_option maxRecDepth 20000 in
theorem ggX7_leastLoss_X7_topAt : GoodIn wsX7_leastLoss wsX7_topAt := goodIn_r _ [13, 14, 1, 15, 16, 17, 18, 19, 20, 21, 22, 23, 24, 33, 34, 35, 36, 37, 38, 39, 40, 41, 42, 43, 44, 45, 46, 47, 48, 49, 50, 51, 52, 53, 54, 55] (by decide +kernel) (by decide +kernel)
set_option maxRecDepth 20000 in
theorem gX7_leastLoss_X7_topAt : GoodIn wsX7_leastLoss (wsV RX7 110 RX7 yX7_topAt wsX7_topAt) := goodIn_app (goodIn_of _ (by decide +kernel)) ggX7_leastLoss_X7_topAt
set_option maxRecDepth 20000 in
theorem ggX7_leastLoss_X7_ownUnder : GoodIn wsX7_leastLoss wsX7_ownUnder := goodIn_r _ [32, 4, 25, 26, 27, 8, 28, 19, 24, 33, 34, 35, 36, 37, 38, 39, 40, 41, 42, 43, 44, 45, 46] (by decide +kernel) (by decide +kernel)
set_option maxRecDepth 20000 in
theorem gX7_leastLoss_X7_ownUnder : GoodIn wsX7_leastLoss (wsV RX7 130 RX7 yX7_ownUnder wsX7_ownUnder) := goodIn_app (goodIn_of _ (by decide +kernel)) ggX7_leastLoss_X7_ownUnder
theorem dX7_leastLoss_0 : decode cX7_leastLoss 0 = .ok (.bipush (-4), 2) := by decide +kernel
theorem dX7_leastLoss_2 : decode cX7_leastLoss 2 = .ok (.istore_n 1, 1) := by decide +kernel
theorem dX7_leastLoss_3 : decode cX7_leastLoss 3 = .ok (.lconst 0, 1) := by decide +kernel
theorem dX7_leastLoss_4 : decode cX7_leastLoss 4 = .ok (.lstore_n 2, 1) := by decide +kernel
theorem dX7_leastLoss_5 : decode cX7_leastLoss 5 = .ok (.lconst 1, 1) := by decide +kernel
theorem dX7_leastLoss_6 : decode cX7_leastLoss 6 = .ok (.lstore 4, 2) := by decide +kernel
theorem dX7_leastLoss_8 : decode cX7_leastLoss 8 = .ok (.iconst 0, 1) := by decide +kernel
theorem dX7_leastLoss_9 : decode cX7_leastLoss 9 = .ok (.istore 6, 2) := by decide +kernel
theorem dX7_leastLoss_11 : decode cX7_leastLoss 11 = .ok (.iload 6, 2) := by decide +kernel
theorem dX7_leastLoss_13 : decode cX7_leastLoss 13 = .ok (.aload_n 0, 1) := by decide +kernel
theorem dX7_leastLoss_14 : decode cX7_leastLoss 14 = .ok (.getfield 29, 3) := by decide +kernel
theorem dX7_leastLoss_17 : decode cX7_leastLoss 17 = .ok (.getfield 60, 3) := by decide +kernel
theorem dX7_leastLoss_20 : decode cX7_leastLoss 20 = .ok (.if_icmp .ge 155, 3) := by decide +kernel
theorem dX7_leastLoss_23 : decode cX7_leastLoss 23 = .ok (.iconst 0, 1) := by decide +kernel
theorem dX7_leastLoss_24 : decode cX7_leastLoss 24 = .ok (.istore 7, 2) := by decide +kernel
theorem dX7_leastLoss_26 : decode cX7_leastLoss 26 = .ok (.iload 7, 2) := by decide +kernel
theorem dX7_leastLoss_28 : decode cX7_leastLoss 28 = .ok (.aload_n 0, 1) := by decide +kernel
theorem dX7_leastLoss_29 : decode cX7_leastLoss 29 = .ok (.getfield 29, 3) := by decide +kernel
theorem dX7_leastLoss_32 : decode cX7_leastLoss 32 = .ok (.getfield 37, 3) := by decide +kernel
theorem dX7_leastLoss_35 : decode cX7_leastLoss 35 = .ok (.if_icmp .gt 134, 3) := by decide +kernel
theorem dX7_leastLoss_38 : decode cX7_leastLoss 38 = .ok (.iload 7, 2) := by decide +kernel
theorem dX7_leastLoss_40 : decode cX7_leastLoss 40 = .ok (.aload_n 0, 1) := by decide +kernel
theorem dX7_leastLoss_41 : decode cX7_leastLoss 41 = .ok (.getfield 29, 3) := by decide +kernel
theorem dX7_leastLoss_44 : decode cX7_leastLoss 44 = .ok (.getfield 37, 3) := by decide +kernel
theorem dX7_leastLoss_47 : decode cX7_leastLoss 47 = .ok (.if_icmp .ne 7, 3) := by decide +kernel
theorem dX7_leastLoss_50 : decode cX7_leastLoss 50 = .ok (.iconst 4, 1) := by decide +kernel
theorem dX7_leastLoss_51 : decode cX7_leastLoss 51 = .ok (.goto 5, 3) := by decide +kernel
theorem dX7_leastLoss_54 : decode cX7_leastLoss 54 = .ok (.iload 7, 2) := by decide +kernel
theorem dX7_leastLoss_56 : decode cX7_leastLoss 56 = .ok (.istore 8, 2) := by decide +kernel
theorem dX7_leastLoss_58 : decode cX7_leastLoss 58 = .ok (.aload_n 0, 1) := by decide +kernel
theorem dX7_leastLoss_59 : decode cX7_leastLoss 59 = .ok (.iload 6, 2) := by decide +kernel
theorem dX7_leastLoss_61 : decode cX7_leastLoss 61 = .ok (.invokevirtual 133, 3) := by decide +kernel
theorem dX7_leastLoss_64 : decode cX7_leastLoss 64 = .ok (.aload_n 0, 1) := by decide +kernel
theorem dX7_leastLoss_65 : decode cX7_leastLoss 65 = .ok (.iload 8, 2) := by decide +kernel
theorem dX7_leastLoss_67 : decode cX7_leastLoss 67 = .ok (.invokevirtual 114, 3) := by decide +kernel
theorem dX7_leastLoss_70 : decode cX7_leastLoss 70 = .ok (.lmul, 1) := by decide +kernel
theorem dX7_leastLoss_71 : decode cX7_leastLoss 71 = .ok (.aload_n 0, 1) := by decide +kernel
theorem dX7_leastLoss_72 : decode cX7_leastLoss 72 = .ok (.iload 6, 2) := by decide +kernel
theorem dX7_leastLoss_74 : decode cX7_leastLoss 74 = .ok (.iload 8, 2) := by decide +kernel
theorem dX7_leastLoss_76 : decode cX7_leastLoss 76 = .ok (.invokevirtual 110, 3) := by decide +kernel
theorem dX7_leastLoss_79 : decode cX7_leastLoss 79 = .ok (.aload_n 0, 1) := by decide +kernel
theorem dX7_leastLoss_80 : decode cX7_leastLoss 80 = .ok (.iload 6, 2) := by decide +kernel
theorem dX7_leastLoss_82 : decode cX7_leastLoss 82 = .ok (.invokevirtual 130, 3) := by decide +kernel
theorem dX7_leastLoss_85 : decode cX7_leastLoss 85 = .ok (.lmul, 1) := by decide +kernel
theorem dX7_leastLoss_86 : decode cX7_leastLoss 86 = .ok (.lsub, 1) := by decide +kernel
theorem dX7_leastLoss_87 : decode cX7_leastLoss 87 = .ok (.lstore 9, 2) := by decide +kernel
theorem dX7_leastLoss_89 : decode cX7_leastLoss 89 = .ok (.aload_n 0, 1) := by decide +kernel
theorem dX7_leastLoss_90 : decode cX7_leastLoss 90 = .ok (.iload 6, 2) := by decide +kernel
theorem dX7_leastLoss_92 : decode cX7_leastLoss 92 = .ok (.invokevirtual 130, 3) := by decide +kernel
theorem dX7_leastLoss_95 : decode cX7_leastLoss 95 = .ok (.aload_n 0, 1) := by decide +kernel
theorem dX7_leastLoss_96 : decode cX7_leastLoss 96 = .ok (.iload 8, 2) := by decide +kernel
theorem dX7_leastLoss_98 : decode cX7_leastLoss 98 = .ok (.invokevirtual 114, 3) := by decide +kernel
theorem dX7_leastLoss_101 : decode cX7_leastLoss 101 = .ok (.lmul, 1) := by decide +kernel
theorem dX7_leastLoss_102 : decode cX7_leastLoss 102 = .ok (.lstore 11, 2) := by decide +kernel
theorem dX7_leastLoss_104 : decode cX7_leastLoss 104 = .ok (.iload_n 1, 1) := by decide +kernel
theorem dX7_leastLoss_105 : decode cX7_leastLoss 105 = .ok (.bipush (-4), 2) := by decide +kernel
theorem dX7_leastLoss_107 : decode cX7_leastLoss 107 = .ok (.if_icmp .eq 16, 3) := by decide +kernel
theorem dX7_leastLoss_110 : decode cX7_leastLoss 110 = .ok (.lload 9, 2) := by decide +kernel
theorem dX7_leastLoss_112 : decode cX7_leastLoss 112 = .ok (.lload 4, 2) := by decide +kernel
theorem dX7_leastLoss_114 : decode cX7_leastLoss 114 = .ok (.lmul, 1) := by decide +kernel
theorem dX7_leastLoss_115 : decode cX7_leastLoss 115 = .ok (.lload_n 2, 1) := by decide +kernel
theorem dX7_leastLoss_116 : decode cX7_leastLoss 116 = .ok (.lload 11, 2) := by decide +kernel
theorem dX7_leastLoss_118 : decode cX7_leastLoss 118 = .ok (.lmul, 1) := by decide +kernel
theorem dX7_leastLoss_119 : decode cX7_leastLoss 119 = .ok (.lcmp, 1) := by decide +kernel
theorem dX7_leastLoss_120 : decode cX7_leastLoss 120 = .ok (.ifCond .ge 7, 3) := by decide +kernel
theorem dX7_leastLoss_123 : decode cX7_leastLoss 123 = .ok (.iconst 1, 1) := by decide +kernel
theorem dX7_leastLoss_124 : decode cX7_leastLoss 124 = .ok (.goto 4, 3) := by decide +kernel
theorem dX7_leastLoss_127 : decode cX7_leastLoss 127 = .ok (.iconst 0, 1) := by decide +kernel
theorem dX7_leastLoss_128 : decode cX7_leastLoss 128 = .ok (.istore 13, 2) := by decide +kernel
theorem dX7_leastLoss_130 : decode cX7_leastLoss 130 = .ok (.iload 8, 2) := by decide +kernel
theorem dX7_leastLoss_132 : decode cX7_leastLoss 132 = .ok (.aload_n 0, 1) := by decide +kernel
theorem dX7_leastLoss_133 : decode cX7_leastLoss 133 = .ok (.getfield 9, 3) := by decide +kernel
theorem dX7_leastLoss_136 : decode cX7_leastLoss 136 = .ok (.iload 6, 2) := by decide +kernel
theorem dX7_leastLoss_138 : decode cX7_leastLoss 138 = .ok (.iaload, 1) := by decide +kernel
theorem dX7_leastLoss_139 : decode cX7_leastLoss 139 = .ok (.if_icmp .eq 24, 3) := by decide +kernel
theorem dX7_leastLoss_142 : decode cX7_leastLoss 142 = .ok (.iload 13, 2) := by decide +kernel
theorem dX7_leastLoss_144 : decode cX7_leastLoss 144 = .ok (.ifCond .eq 19, 3) := by decide +kernel
theorem dX7_leastLoss_147 : decode cX7_leastLoss 147 = .ok (.bipush 10, 2) := by decide +kernel
theorem dX7_leastLoss_149 : decode cX7_leastLoss 149 = .ok (.iload 6, 2) := by decide +kernel
theorem dX7_leastLoss_151 : decode cX7_leastLoss 151 = .ok (.imul, 1) := by decide +kernel
theorem dX7_leastLoss_152 : decode cX7_leastLoss 152 = .ok (.iload 8, 2) := by decide +kernel
theorem dX7_leastLoss_154 : decode cX7_leastLoss 154 = .ok (.iadd, 1) := by decide +kernel
theorem dX7_leastLoss_155 : decode cX7_leastLoss 155 = .ok (.istore_n 1, 1) := by decide +kernel
theorem dX7_leastLoss_156 : decode cX7_leastLoss 156 = .ok (.lload 9, 2) := by decide +kernel
theorem dX7_leastLoss_158 : decode cX7_leastLoss 158 = .ok (.lstore_n 2, 1) := by decide +kernel
theorem dX7_leastLoss_159 : decode cX7_leastLoss 159 = .ok (.lload 11, 2) := by decide +kernel
theorem dX7_leastLoss_161 : decode cX7_leastLoss 161 = .ok (.lstore 4, 2) := by decide +kernel
theorem dX7_leastLoss_163 : decode cX7_leastLoss 163 = .ok (.iinc 7 1, 3) := by decide +kernel
theorem dX7_leastLoss_166 : decode cX7_leastLoss 166 = .ok (.goto (-140), 3) := by decide +kernel
theorem dX7_leastLoss_169 : decode cX7_leastLoss 169 = .ok (.iinc 6 1, 3) := by decide +kernel
theorem dX7_leastLoss_172 : decode cX7_leastLoss 172 = .ok (.goto (-161), 3) := by decide +kernel
theorem dX7_leastLoss_175 : decode cX7_leastLoss 175 = .ok (.iload_n 1, 1) := by decide +kernel
theorem dX7_leastLoss_176 : decode cX7_leastLoss 176 = .ok (.ireturn, 1) := by decide +kernel
theorem dX7_wasted_0 : decode cX7_wasted 0 = .ok (.iconst 0, 1) := by decide +kernel
theorem dX7_wasted_1 : decode cX7_wasted 1 = .ok (.istore_n 1, 1) := by decide +kernel
theorem dX7_wasted_2 : decode cX7_wasted 2 = .ok (.iconst 0, 1) := by decide +kernel
theorem dX7_wasted_3 : decode cX7_wasted 3 = .ok (.istore_n 2, 1) := by decide +kernel
theorem dX7_wasted_4 : decode cX7_wasted 4 = .ok (.iload_n 2, 1) := by decide +kernel
theorem dX7_wasted_5 : decode cX7_wasted 5 = .ok (.aload_n 0, 1) := by decide +kernel
theorem dX7_wasted_6 : decode cX7_wasted 6 = .ok (.getfield 29, 3) := by decide +kernel
theorem dX7_wasted_9 : decode cX7_wasted 9 = .ok (.getfield 60, 3) := by decide +kernel
theorem dX7_wasted_12 : decode cX7_wasted 12 = .ok (.if_icmp .ge 48, 3) := by decide +kernel
theorem dX7_wasted_15 : decode cX7_wasted 15 = .ok (.aload_n 0, 1) := by decide +kernel
theorem dX7_wasted_16 : decode cX7_wasted 16 = .ok (.getfield 9, 3) := by decide +kernel
theorem dX7_wasted_19 : decode cX7_wasted 19 = .ok (.iload_n 2, 1) := by decide +kernel
theorem dX7_wasted_20 : decode cX7_wasted 20 = .ok (.iaload, 1) := by decide +kernel
theorem dX7_wasted_21 : decode cX7_wasted 21 = .ok (.iconst 4, 1) := by decide +kernel
theorem dX7_wasted_22 : decode cX7_wasted 22 = .ok (.if_icmp .eq 32, 3) := by decide +kernel
theorem dX7_wasted_25 : decode cX7_wasted 25 = .ok (.iload_n 1, 1) := by decide +kernel
theorem dX7_wasted_26 : decode cX7_wasted 26 = .ok (.aload_n 0, 1) := by decide +kernel
theorem dX7_wasted_27 : decode cX7_wasted 27 = .ok (.getfield 29, 3) := by decide +kernel
theorem dX7_wasted_30 : decode cX7_wasted 30 = .ok (.getfield 63, 3) := by decide +kernel
theorem dX7_wasted_33 : decode cX7_wasted 33 = .ok (.iload_n 2, 1) := by decide +kernel
theorem dX7_wasted_34 : decode cX7_wasted 34 = .ok (.iaload, 1) := by decide +kernel
theorem dX7_wasted_35 : decode cX7_wasted 35 = .ok (.aload_n 0, 1) := by decide +kernel
theorem dX7_wasted_36 : decode cX7_wasted 36 = .ok (.getfield 29, 3) := by decide +kernel
theorem dX7_wasted_39 : decode cX7_wasted 39 = .ok (.getfield 100, 3) := by decide +kernel
theorem dX7_wasted_42 : decode cX7_wasted 42 = .ok (.aload_n 0, 1) := by decide +kernel
theorem dX7_wasted_43 : decode cX7_wasted 43 = .ok (.getfield 9, 3) := by decide +kernel
theorem dX7_wasted_46 : decode cX7_wasted 46 = .ok (.iload_n 2, 1) := by decide +kernel
theorem dX7_wasted_47 : decode cX7_wasted 47 = .ok (.iaload, 1) := by decide +kernel
theorem dX7_wasted_48 : decode cX7_wasted 48 = .ok (.aaload, 1) := by decide +kernel
theorem dX7_wasted_49 : decode cX7_wasted 49 = .ok (.iload_n 2, 1) := by decide +kernel
theorem dX7_wasted_50 : decode cX7_wasted 50 = .ok (.iaload, 1) := by decide +kernel
theorem dX7_wasted_51 : decode cX7_wasted 51 = .ok (.imul, 1) := by decide +kernel
theorem dX7_wasted_52 : decode cX7_wasted 52 = .ok (.iadd, 1) := by decide +kernel
theorem dX7_wasted_53 : decode cX7_wasted 53 = .ok (.istore_n 1, 1) := by decide +kernel
theorem dX7_wasted_54 : decode cX7_wasted 54 = .ok (.iinc 2 1, 3) := by decide +kernel
theorem dX7_wasted_57 : decode cX7_wasted 57 = .ok (.goto (-53), 3) := by decide +kernel
theorem dX7_wasted_60 : decode cX7_wasted 60 = .ok (.iload_n 1, 1) := by decide +kernel
theorem dX7_wasted_61 : decode cX7_wasted 61 = .ok (.ireturn, 1) := by decide +kernel
set_option maxRecDepth 20000 in
theorem ggX7_gainTop_X4_meanWorth : GoodIn wsX7_gainTop wsX4_meanWorth := goodIn_r _ [13, 14, 15, 16, 58, 59, 60, 61, 62, 63, 64, 65, 66] (by decide +kernel) (by decide +kernel)
set_option maxRecDepth 20000 in
theorem gX7_gainTop_X4_meanWorth : GoodIn wsX7_gainTop (wsV RX7 164 RX4 yX4_meanWorth wsX4_meanWorth) := goodIn_app (goodIn_of _ (by decide +kernel)) ggX7_gainTop_X4_meanWorth
set_option maxRecDepth 20000 in
theorem ggX7_gainTop_X7_ownTop : GoodIn wsX7_gainTop wsX7_ownTop := goodIn_r _ [21, 22, 23, 24, 25, 20, 26, 27, 1, 3, 28, 29, 30, 31, 32, 33, 2, 34, 35, 44, 45, 46, 47, 48, 49, 50, 51, 52, 53, 54, 55, 56, 57, 58, 59, 60, 61, 62, 63, 64, 65, 66] (by decide +kernel) (by decide +kernel)
set_option maxRecDepth 20000 in
theorem gX7_gainTop_X7_ownTop : GoodIn wsX7_gainTop (wsV RX7 133 RX7 yX7_ownTop wsX7_ownTop) := goodIn_app (goodIn_of _ (by decide +kernel)) ggX7_gainTop_X7_ownTop
set_option maxRecDepth 20000 in
theorem ggX7_gainTop_X7_ownUnder : GoodIn wsX7_gainTop wsX7_ownUnder := goodIn_r _ [39, 22, 40, 41, 42, 20, 43, 31, 35, 44, 45, 46, 47, 48, 49, 50, 51, 52, 53, 54, 55, 56, 57] (by decide +kernel) (by decide +kernel)
set_option maxRecDepth 20000 in
theorem gX7_gainTop_X7_ownUnder : GoodIn wsX7_gainTop (wsV RX7 130 RX7 yX7_ownUnder wsX7_ownUnder) := goodIn_app (goodIn_of _ (by decide +kernel)) ggX7_gainTop_X7_ownUnder
theorem dX7_gainTop_0 : decode cX7_gainTop 0 = .ok (.iload_n 2, 1) := by decide +kernel
theorem dX7_gainTop_1 : decode cX7_gainTop 1 = .ok (.ifCond .ne 14, 3) := by decide +kernel
theorem dX7_gainTop_4 : decode cX7_gainTop 4 = .ok (.aload_n 0, 1) := by decide +kernel
theorem dX7_gainTop_5 : decode cX7_gainTop 5 = .ok (.getfield 29, 3) := by decide +kernel
theorem dX7_gainTop_8 : decode cX7_gainTop 8 = .ok (.invokevirtual 164, 3) := by decide +kernel
theorem dX7_gainTop_11 : decode cX7_gainTop 11 = .ok (.i2l, 1) := by decide +kernel
theorem dX7_gainTop_12 : decode cX7_gainTop 12 = .ok (.goto 16, 3) := by decide +kernel
theorem dX7_gainTop_15 : decode cX7_gainTop 15 = .ok (.bipush 100, 2) := by decide +kernel
theorem dX7_gainTop_17 : decode cX7_gainTop 17 = .ok (.aload_n 0, 1) := by decide +kernel
theorem dX7_gainTop_18 : decode cX7_gainTop 18 = .ok (.getfield 29, 3) := by decide +kernel
theorem dX7_gainTop_21 : decode cX7_gainTop 21 = .ok (.getfield 66, 3) := by decide +kernel
theorem dX7_gainTop_24 : decode cX7_gainTop 24 = .ok (.iload_n 1, 1) := by decide +kernel
theorem dX7_gainTop_25 : decode cX7_gainTop 25 = .ok (.iaload, 1) := by decide +kernel
theorem dX7_gainTop_26 : decode cX7_gainTop 26 = .ok (.imul, 1) := by decide +kernel
theorem dX7_gainTop_27 : decode cX7_gainTop 27 = .ok (.i2l, 1) := by decide +kernel
theorem dX7_gainTop_28 : decode cX7_gainTop 28 = .ok (.lstore_n 3, 1) := by decide +kernel
theorem dX7_gainTop_29 : decode cX7_gainTop 29 = .ok (.lload_n 3, 1) := by decide +kernel
theorem dX7_gainTop_30 : decode cX7_gainTop 30 = .ok (.bipush 100, 2) := by decide +kernel
theorem dX7_gainTop_32 : decode cX7_gainTop 32 = .ok (.aload_n 0, 1) := by decide +kernel
theorem dX7_gainTop_33 : decode cX7_gainTop 33 = .ok (.getfield 29, 3) := by decide +kernel
theorem dX7_gainTop_36 : decode cX7_gainTop 36 = .ok (.getfield 97, 3) := by decide +kernel
theorem dX7_gainTop_39 : decode cX7_gainTop 39 = .ok (.iload_n 1, 1) := by decide +kernel
theorem dX7_gainTop_40 : decode cX7_gainTop 40 = .ok (.iaload, 1) := by decide +kernel
theorem dX7_gainTop_41 : decode cX7_gainTop 41 = .ok (.imul, 1) := by decide +kernel
theorem dX7_gainTop_42 : decode cX7_gainTop 42 = .ok (.i2l, 1) := by decide +kernel
theorem dX7_gainTop_43 : decode cX7_gainTop 43 = .ok (.invokestatic 167, 3) := by decide +kernel
theorem dX7_gainTop_46 : decode cX7_gainTop 46 = .ok (.lstore 5, 2) := by decide +kernel
theorem dX7_gainTop_48 : decode cX7_gainTop 48 = .ok (.ldc2_w 83, 3) := by decide +kernel
theorem dX7_gainTop_51 : decode cX7_gainTop 51 = .ok (.aload_n 0, 1) := by decide +kernel
theorem dX7_gainTop_52 : decode cX7_gainTop 52 = .ok (.iload_n 1, 1) := by decide +kernel
theorem dX7_gainTop_53 : decode cX7_gainTop 53 = .ok (.invokevirtual 133, 3) := by decide +kernel
theorem dX7_gainTop_56 : decode cX7_gainTop 56 = .ok (.lmul, 1) := by decide +kernel
theorem dX7_gainTop_57 : decode cX7_gainTop 57 = .ok (.lload 5, 2) := by decide +kernel
theorem dX7_gainTop_59 : decode cX7_gainTop 59 = .ok (.aload_n 0, 1) := by decide +kernel
theorem dX7_gainTop_60 : decode cX7_gainTop 60 = .ok (.iload_n 1, 1) := by decide +kernel
theorem dX7_gainTop_61 : decode cX7_gainTop 61 = .ok (.invokevirtual 130, 3) := by decide +kernel
theorem dX7_gainTop_64 : decode cX7_gainTop 64 = .ok (.lmul, 1) := by decide +kernel
theorem dX7_gainTop_65 : decode cX7_gainTop 65 = .ok (.lsub, 1) := by decide +kernel
theorem dX7_gainTop_66 : decode cX7_gainTop 66 = .ok (.lreturn, 1) := by decide +kernel
set_option maxRecDepth 20000 in
theorem ggX7_gainUnder_X7_ownUnder : GoodIn wsX7_gainUnder wsX7_ownUnder := goodIn_r _ [6, 7, 8, 9, 10, 5, 11, 12, 13, 14, 15, 16, 17, 18, 19, 20, 21, 22, 23, 24, 25, 26, 27] (by decide +kernel) (by decide +kernel)
set_option maxRecDepth 20000 in
theorem gX7_gainUnder_X7_ownUnder : GoodIn wsX7_gainUnder (wsV RX7 130 RX7 yX7_ownUnder wsX7_ownUnder) := goodIn_app (goodIn_of _ (by decide +kernel)) ggX7_gainUnder_X7_ownUnder
theorem dX7_gainUnder_0 : decode cX7_gainUnder 0 = .ok (.ldc2_w 83, 3) := by decide +kernel
theorem dX7_gainUnder_3 : decode cX7_gainUnder 3 = .ok (.aload_n 0, 1) := by decide +kernel
theorem dX7_gainUnder_4 : decode cX7_gainUnder 4 = .ok (.iload_n 1, 1) := by decide +kernel
theorem dX7_gainUnder_5 : decode cX7_gainUnder 5 = .ok (.invokevirtual 130, 3) := by decide +kernel
theorem dX7_gainUnder_8 : decode cX7_gainUnder 8 = .ok (.lmul, 1) := by decide +kernel
theorem dX7_gainUnder_9 : decode cX7_gainUnder 9 = .ok (.lreturn, 1) := by decide +kernel
theorem dX8_init_0 : decode cX8_init 0 = .ok (.aload_n 0, 1) := by decide +kernel
theorem dX8_init_1 : decode cX8_init 1 = .ok (.invokespecial 3, 3) := by decide +kernel
theorem dX8_init_4 : decode cX8_init 4 = .ok (.aload_n 0, 1) := by decide +kernel
theorem dX8_init_5 : decode cX8_init 5 = .ok (.bipush 120, 2) := by decide +kernel
theorem dX8_init_7 : decode cX8_init 7 = .ok (.newarray .int, 2) := by decide +kernel
theorem dX8_init_9 : decode cX8_init 9 = .ok (.putfield 9, 3) := by decide +kernel
theorem dX8_init_12 : decode cX8_init 12 = .ok (.aload_n 0, 1) := by decide +kernel
theorem dX8_init_13 : decode cX8_init 13 = .ok (.iconst (-1), 1) := by decide +kernel
theorem dX8_init_14 : decode cX8_init 14 = .ok (.putfield 15, 3) := by decide +kernel
theorem dX8_init_17 : decode cX8_init 17 = .ok (.return_, 1) := by decide +kernel
theorem dX8_clear_0 : decode cX8_clear 0 = .ok (.aload_n 0, 1) := by decide +kernel
theorem dX8_clear_1 : decode cX8_clear 1 = .ok (.iconst (-1), 1) := by decide +kernel
theorem dX8_clear_2 : decode cX8_clear 2 = .ok (.putfield 15, 3) := by decide +kernel
theorem dX8_clear_5 : decode cX8_clear 5 = .ok (.aload_n 0, 1) := by decide +kernel
theorem dX8_clear_6 : decode cX8_clear 6 = .ok (.iconst 0, 1) := by decide +kernel
theorem dX8_clear_7 : decode cX8_clear 7 = .ok (.putfield 19, 3) := by decide +kernel
theorem dX8_clear_10 : decode cX8_clear 10 = .ok (.aload_n 0, 1) := by decide +kernel
theorem dX8_clear_11 : decode cX8_clear 11 = .ok (.aconst_null, 1) := by decide +kernel
theorem dX8_clear_12 : decode cX8_clear 12 = .ok (.putfield 22, 3) := by decide +kernel
theorem dX8_clear_15 : decode cX8_clear 15 = .ok (.return_, 1) := by decide +kernel
set_option maxRecDepth 20000 in
theorem ggX8_holdFit_X8_clear : GoodIn wsX8_holdFit wsX8_clear := goodIn_r _ [6, 7, 8, 1, 9, 10, 11, 12] (by decide +kernel) (by decide +kernel)
set_option maxRecDepth 20000 in
theorem gX8_holdFit_X8_clear : GoodIn wsX8_holdFit (wsV RX8 26 RX8 yX8_clear wsX8_clear) := goodIn_app (goodIn_of _ (by decide +kernel)) ggX8_holdFit_X8_clear
theorem dX8_holdFit_0 : decode cX8_holdFit 0 = .ok (.aload_n 0, 1) := by decide +kernel
theorem dX8_holdFit_1 : decode cX8_holdFit 1 = .ok (.invokevirtual 26, 3) := by decide +kernel
theorem dX8_holdFit_4 : decode cX8_holdFit 4 = .ok (.aload_n 0, 1) := by decide +kernel
theorem dX8_holdFit_5 : decode cX8_holdFit 5 = .ok (.aload_n 1, 1) := by decide +kernel
theorem dX8_holdFit_6 : decode cX8_holdFit 6 = .ok (.putfield 22, 3) := by decide +kernel
theorem dX8_holdFit_9 : decode cX8_holdFit 9 = .ok (.return_, 1) := by decide +kernel
set_option maxRecDepth 20000 in
theorem ggX8_holdRow_X8_clear : GoodIn wsX8_holdRow wsX8_clear := goodIn_r _ [8, 1, 2, 9, 14, 15, 16, 17] (by decide +kernel) (by decide +kernel)
set_option maxRecDepth 20000 in
theorem gX8_holdRow_X8_clear : GoodIn wsX8_holdRow (wsV RX8 26 RX8 yX8_clear wsX8_clear) := goodIn_app (goodIn_of _ (by decide +kernel)) ggX8_holdRow_X8_clear
set_option maxRecDepth 20000 in
theorem ggX8_holdRow_J7_fill_53178 : GoodIn wsX8_holdRow wsJ7_fill_53178 := goodIn_r _ [13] (by decide +kernel) (by decide +kernel)
set_option maxRecDepth 20000 in
theorem gX8_holdRow_J7_fill_53178 : GoodIn wsX8_holdRow (va_wsS RX8 29 yJ7_fill_53178 wsJ7_fill_53178) := goodIn_app (goodIn_of _ (by decide +kernel)) ggX8_holdRow_J7_fill_53178
theorem dX8_holdRow_0 : decode cX8_holdRow 0 = .ok (.aload_n 0, 1) := by decide +kernel
theorem dX8_holdRow_1 : decode cX8_holdRow 1 = .ok (.invokevirtual 26, 3) := by decide +kernel
theorem dX8_holdRow_4 : decode cX8_holdRow 4 = .ok (.aload_n 0, 1) := by decide +kernel
theorem dX8_holdRow_5 : decode cX8_holdRow 5 = .ok (.iload_n 1, 1) := by decide +kernel
theorem dX8_holdRow_6 : decode cX8_holdRow 6 = .ok (.putfield 15, 3) := by decide +kernel
theorem dX8_holdRow_9 : decode cX8_holdRow 9 = .ok (.aload_n 0, 1) := by decide +kernel
theorem dX8_holdRow_10 : decode cX8_holdRow 10 = .ok (.iload_n 2, 1) := by decide +kernel
theorem dX8_holdRow_11 : decode cX8_holdRow 11 = .ok (.putfield 19, 3) := by decide +kernel
theorem dX8_holdRow_14 : decode cX8_holdRow 14 = .ok (.aload_n 0, 1) := by decide +kernel
theorem dX8_holdRow_15 : decode cX8_holdRow 15 = .ok (.getfield 9, 3) := by decide +kernel
theorem dX8_holdRow_18 : decode cX8_holdRow 18 = .ok (.iconst 0, 1) := by decide +kernel
theorem dX8_holdRow_19 : decode cX8_holdRow 19 = .ok (.invokestatic 29, 3) := by decide +kernel
theorem dX8_holdRow_22 : decode cX8_holdRow 22 = .ok (.return_, 1) := by decide +kernel
theorem dX8_isBare_0 : decode cX8_isBare 0 = .ok (.aload_n 0, 1) := by decide +kernel
theorem dX8_isBare_1 : decode cX8_isBare 1 = .ok (.getfield 22, 3) := by decide +kernel
theorem dX8_isBare_4 : decode cX8_isBare 4 = .ok (.ifnonnull 15, 3) := by decide +kernel
theorem dX8_isBare_7 : decode cX8_isBare 7 = .ok (.aload_n 0, 1) := by decide +kernel
theorem dX8_isBare_8 : decode cX8_isBare 8 = .ok (.getfield 15, 3) := by decide +kernel
theorem dX8_isBare_11 : decode cX8_isBare 11 = .ok (.iconst (-1), 1) := by decide +kernel
theorem dX8_isBare_12 : decode cX8_isBare 12 = .ok (.if_icmp .ne 7, 3) := by decide +kernel
theorem dX8_isBare_15 : decode cX8_isBare 15 = .ok (.iconst 1, 1) := by decide +kernel
theorem dX8_isBare_16 : decode cX8_isBare 16 = .ok (.goto 4, 3) := by decide +kernel
theorem dX8_isBare_19 : decode cX8_isBare 19 = .ok (.iconst 0, 1) := by decide +kernel
theorem dX8_isBare_20 : decode cX8_isBare 20 = .ok (.ireturn, 1) := by decide +kernel
theorem dX8_holdsRow_0 : decode cX8_holdsRow 0 = .ok (.aload_n 0, 1) := by decide +kernel
theorem dX8_holdsRow_1 : decode cX8_holdsRow 1 = .ok (.getfield 15, 3) := by decide +kernel
theorem dX8_holdsRow_4 : decode cX8_holdsRow 4 = .ok (.iconst (-1), 1) := by decide +kernel
theorem dX8_holdsRow_5 : decode cX8_holdsRow 5 = .ok (.if_icmp .eq 7, 3) := by decide +kernel
theorem dX8_holdsRow_8 : decode cX8_holdsRow 8 = .ok (.iconst 1, 1) := by decide +kernel
theorem dX8_holdsRow_9 : decode cX8_holdsRow 9 = .ok (.goto 4, 3) := by decide +kernel
theorem dX8_holdsRow_12 : decode cX8_holdsRow 12 = .ok (.iconst 0, 1) := by decide +kernel
theorem dX8_holdsRow_13 : decode cX8_holdsRow 13 = .ok (.ireturn, 1) := by decide +kernel
set_option maxRecDepth 20000 in
theorem ggX8_holdsRowOf_X8_holdsRow : GoodIn wsX8_holdsRowOf wsX8_holdsRow := goodIn_r _ [6, 1, 7, 8, 9, 10] (by decide +kernel) (by decide +kernel)
set_option maxRecDepth 20000 in
theorem gX8_holdsRowOf_X8_holdsRow : GoodIn wsX8_holdsRowOf (wsV RX8 35 RX8 yX8_holdsRow wsX8_holdsRow) := goodIn_app (goodIn_of _ (by decide +kernel)) ggX8_holdsRowOf_X8_holdsRow
theorem dX8_holdsRowOf_0 : decode cX8_holdsRowOf 0 = .ok (.aload_n 0, 1) := by decide +kernel
theorem dX8_holdsRowOf_1 : decode cX8_holdsRowOf 1 = .ok (.invokevirtual 35, 3) := by decide +kernel
theorem dX8_holdsRowOf_4 : decode cX8_holdsRowOf 4 = .ok (.ifCond .eq 15, 3) := by decide +kernel
theorem dX8_holdsRowOf_7 : decode cX8_holdsRowOf 7 = .ok (.aload_n 0, 1) := by decide +kernel
theorem dX8_holdsRowOf_8 : decode cX8_holdsRowOf 8 = .ok (.getfield 15, 3) := by decide +kernel
theorem dX8_holdsRowOf_11 : decode cX8_holdsRowOf 11 = .ok (.iload_n 1, 1) := by decide +kernel
theorem dX8_holdsRowOf_12 : decode cX8_holdsRowOf 12 = .ok (.if_icmp .ne 7, 3) := by decide +kernel
theorem dX8_holdsRowOf_15 : decode cX8_holdsRowOf 15 = .ok (.iconst 1, 1) := by decide +kernel
theorem dX8_holdsRowOf_16 : decode cX8_holdsRowOf 16 = .ok (.goto 4, 3) := by decide +kernel
theorem dX8_holdsRowOf_19 : decode cX8_holdsRowOf 19 = .ok (.iconst 0, 1) := by decide +kernel
theorem dX8_holdsRowOf_20 : decode cX8_holdsRowOf 20 = .ok (.ireturn, 1) := by decide +kernel
theorem dX8_hasPlaces_0 : decode cX8_hasPlaces 0 = .ok (.iload_n 1, 1) := by decide +kernel
theorem dX8_hasPlaces_1 : decode cX8_hasPlaces 1 = .ok (.ifCond .lt 29, 3) := by decide +kernel
theorem dX8_hasPlaces_4 : decode cX8_hasPlaces 4 = .ok (.iload_n 2, 1) := by decide +kernel
theorem dX8_hasPlaces_5 : decode cX8_hasPlaces 5 = .ok (.ifCond .lt 25, 3) := by decide +kernel
theorem dX8_hasPlaces_8 : decode cX8_hasPlaces 8 = .ok (.iload_n 2, 1) := by decide +kernel
theorem dX8_hasPlaces_9 : decode cX8_hasPlaces 9 = .ok (.aload_n 0, 1) := by decide +kernel
theorem dX8_hasPlaces_10 : decode cX8_hasPlaces 10 = .ok (.getfield 19, 3) := by decide +kernel
theorem dX8_hasPlaces_13 : decode cX8_hasPlaces 13 = .ok (.if_icmp .gt 17, 3) := by decide +kernel
theorem dX8_hasPlaces_16 : decode cX8_hasPlaces 16 = .ok (.iload_n 1, 1) := by decide +kernel
theorem dX8_hasPlaces_17 : decode cX8_hasPlaces 17 = .ok (.aload_n 0, 1) := by decide +kernel
theorem dX8_hasPlaces_18 : decode cX8_hasPlaces 18 = .ok (.getfield 19, 3) := by decide +kernel
theorem dX8_hasPlaces_21 : decode cX8_hasPlaces 21 = .ok (.iload_n 2, 1) := by decide +kernel
theorem dX8_hasPlaces_22 : decode cX8_hasPlaces 22 = .ok (.isub, 1) := by decide +kernel
theorem dX8_hasPlaces_23 : decode cX8_hasPlaces 23 = .ok (.if_icmp .gt 7, 3) := by decide +kernel
theorem dX8_hasPlaces_26 : decode cX8_hasPlaces 26 = .ok (.iconst 1, 1) := by decide +kernel
theorem dX8_hasPlaces_27 : decode cX8_hasPlaces 27 = .ok (.goto 4, 3) := by decide +kernel
theorem dX8_hasPlaces_30 : decode cX8_hasPlaces 30 = .ok (.iconst 0, 1) := by decide +kernel
theorem dX8_hasPlaces_31 : decode cX8_hasPlaces 31 = .ok (.ireturn, 1) := by decide +kernel
theorem dX8_setValue_0 : decode cX8_setValue 0 = .ok (.aload_n 0, 1) := by decide +kernel
theorem dX8_setValue_1 : decode cX8_setValue 1 = .ok (.getfield 15, 3) := by decide +kernel
theorem dX8_setValue_4 : decode cX8_setValue 4 = .ok (.ifCond .ne 14, 3) := by decide +kernel
theorem dX8_setValue_7 : decode cX8_setValue 7 = .ok (.aload_n 0, 1) := by decide +kernel
theorem dX8_setValue_8 : decode cX8_setValue 8 = .ok (.getfield 9, 3) := by decide +kernel
theorem dX8_setValue_11 : decode cX8_setValue 11 = .ok (.iload_n 1, 1) := by decide +kernel
theorem dX8_setValue_12 : decode cX8_setValue 12 = .ok (.iload_n 2, 1) := by decide +kernel
theorem dX8_setValue_13 : decode cX8_setValue 13 = .ok (.i2b, 1) := by decide +kernel
theorem dX8_setValue_14 : decode cX8_setValue 14 = .ok (.iastore, 1) := by decide +kernel
theorem dX8_setValue_15 : decode cX8_setValue 15 = .ok (.goto 29, 3) := by decide +kernel
theorem dX8_setValue_18 : decode cX8_setValue 18 = .ok (.aload_n 0, 1) := by decide +kernel
theorem dX8_setValue_19 : decode cX8_setValue 19 = .ok (.getfield 15, 3) := by decide +kernel
theorem dX8_setValue_22 : decode cX8_setValue 22 = .ok (.iconst 1, 1) := by decide +kernel
theorem dX8_setValue_23 : decode cX8_setValue 23 = .ok (.if_icmp .ne 14, 3) := by decide +kernel
theorem dX8_setValue_26 : decode cX8_setValue 26 = .ok (.aload_n 0, 1) := by decide +kernel
theorem dX8_setValue_27 : decode cX8_setValue 27 = .ok (.getfield 9, 3) := by decide +kernel
theorem dX8_setValue_30 : decode cX8_setValue 30 = .ok (.iload_n 1, 1) := by decide +kernel
theorem dX8_setValue_31 : decode cX8_setValue 31 = .ok (.iload_n 2, 1) := by decide +kernel
theorem dX8_setValue_32 : decode cX8_setValue 32 = .ok (.i2s, 1) := by decide +kernel
theorem dX8_setValue_33 : decode cX8_setValue 33 = .ok (.iastore, 1) := by decide +kernel
theorem dX8_setValue_34 : decode cX8_setValue 34 = .ok (.goto 10, 3) := by decide +kernel
theorem dX8_setValue_37 : decode cX8_setValue 37 = .ok (.aload_n 0, 1) := by decide +kernel
theorem dX8_setValue_38 : decode cX8_setValue 38 = .ok (.getfield 9, 3) := by decide +kernel
theorem dX8_setValue_41 : decode cX8_setValue 41 = .ok (.iload_n 1, 1) := by decide +kernel
theorem dX8_setValue_42 : decode cX8_setValue 42 = .ok (.iload_n 2, 1) := by decide +kernel
theorem dX8_setValue_43 : decode cX8_setValue 43 = .ok (.iastore, 1) := by decide +kernel
theorem dX8_setValue_44 : decode cX8_setValue 44 = .ok (.return_, 1) := by decide +kernel
set_option maxRecDepth 20000 in
theorem ggX9_init_X2_init : GoodIn wsX9_init wsX2_init := goodIn_r _ [4, 5, 6, 7, 8, 9, 10, 11, 12, 13, 14, 15, 16, 17, 18, 19, 20, 21, 22, 23, 24, 25, 26, 27, 28, 29, 30, 31, 32, 33, 34, 35, 36, 37, 38, 39, 40, 41, 42] (by decide +kernel) (by decide +kernel)
set_option maxRecDepth 20000 in
theorem gX9_init_X2_init : GoodIn wsX9_init (wsX2_init) := ggX9_init_X2_init
theorem dX9_init_0 : decode cX9_init 0 = .ok (.aload_n 0, 1) := by decide +kernel
theorem dX9_init_1 : decode cX9_init 1 = .ok (.iload_n 1, 1) := by decide +kernel
theorem dX9_init_2 : decode cX9_init 2 = .ok (.iload_n 2, 1) := by decide +kernel
theorem dX9_init_3 : decode cX9_init 3 = .ok (.invokespecial 1, 3) := by decide +kernel
theorem dX9_init_6 : decode cX9_init 6 = .ok (.return_, 1) := by decide +kernel
set_option maxRecDepth 20000 in
theorem ggX9_broad_X2_broad : GoodIn wsX9_broad wsX2_broad := goodIn_r _ [6, 7, 8, 9, 10, 11, 12, 13, 14, 15, 16, 17, 18, 19, 20, 21, 22, 23, 24, 25, 26, 27, 28, 29, 30, 31] (by decide +kernel) (by decide +kernel)
set_option maxRecDepth 20000 in
theorem gX9_broad_X2_broad_s7 : GoodIn wsX9_broad (va_wsSU RX9 7 yX2_broad wsX2_broad) := goodIn_app (goodIn_of _ (by decide +kernel)) ggX9_broad_X2_broad
theorem dX9_broad_0 : decode cX9_broad 0 = .ok (.aload_n 0, 1) := by decide +kernel
theorem dX9_broad_1 : decode cX9_broad 1 = .ok (.invokespecial 7, 3) := by decide +kernel
theorem dX9_broad_4 : decode cX9_broad 4 = .ok (.iconst 5, 1) := by decide +kernel
theorem dX9_broad_5 : decode cX9_broad 5 = .ok (.iadd, 1) := by decide +kernel
theorem dX9_broad_6 : decode cX9_broad 6 = .ok (.ireturn, 1) := by decide +kernel
set_option maxRecDepth 20000 in
theorem ggX10_init_X0_init : GoodIn wsX10_init wsX0_init := goodIn_r _ [4, 5, 6, 7, 8, 9, 10, 11, 12, 13, 14, 15, 16, 17, 18, 19, 20, 21, 22, 23, 24, 25, 26, 27, 28, 29, 30, 31, 32, 33, 34, 35, 36, 37, 38, 39, 40, 41, 42, 43, 44, 45, 46] (by decide +kernel) (by decide +kernel)
set_option maxRecDepth 20000 in
theorem gX10_init_X0_init : GoodIn wsX10_init (wsX0_init) := ggX10_init_X0_init
theorem dX10_init_0 : decode cX10_init 0 = .ok (.aload_n 0, 1) := by decide +kernel
theorem dX10_init_1 : decode cX10_init 1 = .ok (.iload_n 1, 1) := by decide +kernel
theorem dX10_init_2 : decode cX10_init 2 = .ok (.iload_n 2, 1) := by decide +kernel
theorem dX10_init_3 : decode cX10_init 3 = .ok (.invokespecial 1, 3) := by decide +kernel
theorem dX10_init_6 : decode cX10_init 6 = .ok (.return_, 1) := by decide +kernel
set_option maxRecDepth 20000 in
theorem ggX10_broad_X0_broad : GoodIn wsX10_broad wsX0_broad := goodIn_r _ [6, 7, 8, 9, 10, 11, 12, 13, 14, 15, 16, 17, 18, 19, 20, 21, 22, 23, 24, 25, 26, 27, 28, 29, 30, 31, 32, 33, 34, 35, 36, 37] (by decide +kernel) (by decide +kernel)
set_option maxRecDepth 20000 in
theorem gX10_broad_X0_broad_s7 : GoodIn wsX10_broad (va_wsSU RX10 7 yX0_broad wsX0_broad) := goodIn_app (goodIn_of _ (by decide +kernel)) ggX10_broad_X0_broad
theorem dX10_broad_0 : decode cX10_broad 0 = .ok (.aload_n 0, 1) := by decide +kernel
theorem dX10_broad_1 : decode cX10_broad 1 = .ok (.invokespecial 7, 3) := by decide +kernel
theorem dX10_broad_4 : decode cX10_broad 4 = .ok (.iconst 1, 1) := by decide +kernel
theorem dX10_broad_5 : decode cX10_broad 5 = .ok (.iadd, 1) := by decide +kernel
theorem dX10_broad_6 : decode cX10_broad 6 = .ok (.ireturn, 1) := by decide +kernel
theorem dX10_failure_0 : decode cX10_failure 0 = .ok (.aload_n 0, 1) := by decide +kernel
theorem dX10_failure_1 : decode cX10_failure 1 = .ok (.invokespecial 11, 3) := by decide +kernel
theorem dX10_failure_4 : decode cX10_failure 4 = .ok (.sipush 1000, 3) := by decide +kernel
theorem dX10_failure_7 : decode cX10_failure 7 = .ok (.iadd, 1) := by decide +kernel
theorem dX10_failure_8 : decode cX10_failure 8 = .ok (.ireturn, 1) := by decide +kernel

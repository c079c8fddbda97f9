theorem dX12_init_0 : decode cX12_init 0 = .ok (.aload_n 0, 1) := by decide +kernel
theorem dX12_init_1 : decode cX12_init 1 = .ok (.invokespecial 1, 3) := by decide +kernel
theorem dX12_init_4 : decode cX12_init 4 = .ok (.aload_n 0, 1) := by decide +kernel
theorem dX12_init_5 : decode cX12_init 5 = .ok (.bipush 39, 2) := by decide +kernel
theorem dX12_init_7 : decode cX12_init 7 = .ok (.newarray .int, 2) := by decide +kernel
theorem dX12_init_9 : decode cX12_init 9 = .ok (.putfield 9, 3) := by decide +kernel
theorem dX12_init_12 : decode cX12_init 12 = .ok (.aload_n 0, 1) := by decide +kernel
theorem dX12_init_13 : decode cX12_init 13 = .ok (.bipush 39, 2) := by decide +kernel
theorem dX12_init_15 : decode cX12_init 15 = .ok (.newarray .int, 2) := by decide +kernel
theorem dX12_init_17 : decode cX12_init 17 = .ok (.putfield 13, 3) := by decide +kernel
theorem dX12_init_20 : decode cX12_init 20 = .ok (.aload_n 0, 1) := by decide +kernel
theorem dX12_init_21 : decode cX12_init 21 = .ok (.bipush 39, 2) := by decide +kernel
theorem dX12_init_23 : decode cX12_init 23 = .ok (.newarray .int, 2) := by decide +kernel
theorem dX12_init_25 : decode cX12_init 25 = .ok (.putfield 16, 3) := by decide +kernel
theorem dX12_init_28 : decode cX12_init 28 = .ok (.aload_n 0, 1) := by decide +kernel
theorem dX12_init_29 : decode cX12_init 29 = .ok (.bipush 8, 2) := by decide +kernel
theorem dX12_init_31 : decode cX12_init 31 = .ok (.newarray .int, 2) := by decide +kernel
theorem dX12_init_33 : decode cX12_init 33 = .ok (.putfield 19, 3) := by decide +kernel
theorem dX12_init_36 : decode cX12_init 36 = .ok (.aload_n 0, 1) := by decide +kernel
theorem dX12_init_37 : decode cX12_init 37 = .ok (.bipush 8, 2) := by decide +kernel
theorem dX12_init_39 : decode cX12_init 39 = .ok (.newarray .int, 2) := by decide +kernel
theorem dX12_init_41 : decode cX12_init 41 = .ok (.putfield 22, 3) := by decide +kernel
theorem dX12_init_44 : decode cX12_init 44 = .ok (.aload_n 0, 1) := by decide +kernel
theorem dX12_init_45 : decode cX12_init 45 = .ok (.bipush 8, 2) := by decide +kernel
theorem dX12_init_47 : decode cX12_init 47 = .ok (.newarray .int, 2) := by decide +kernel
theorem dX12_init_49 : decode cX12_init 49 = .ok (.putfield 25, 3) := by decide +kernel
theorem dX12_init_52 : decode cX12_init 52 = .ok (.aload_n 0, 1) := by decide +kernel
theorem dX12_init_53 : decode cX12_init 53 = .ok (.sipush 960, 3) := by decide +kernel
theorem dX12_init_56 : decode cX12_init 56 = .ok (.newarray .int, 2) := by decide +kernel
theorem dX12_init_58 : decode cX12_init 58 = .ok (.putfield 28, 3) := by decide +kernel
theorem dX12_init_61 : decode cX12_init 61 = .ok (.aload_n 0, 1) := by decide +kernel
theorem dX12_init_62 : decode cX12_init 62 = .ok (.bipush 8, 2) := by decide +kernel
theorem dX12_init_64 : decode cX12_init 64 = .ok (.newarray .int, 2) := by decide +kernel
theorem dX12_init_66 : decode cX12_init 66 = .ok (.putfield 31, 3) := by decide +kernel
theorem dX12_init_69 : decode cX12_init 69 = .ok (.aload_n 0, 1) := by decide +kernel
theorem dX12_init_70 : decode cX12_init 70 = .ok (.bipush 8, 2) := by decide +kernel
theorem dX12_init_72 : decode cX12_init 72 = .ok (.newarray .int, 2) := by decide +kernel
theorem dX12_init_74 : decode cX12_init 74 = .ok (.putfield 34, 3) := by decide +kernel
theorem dX12_init_77 : decode cX12_init 77 = .ok (.aload_n 0, 1) := by decide +kernel
theorem dX12_init_78 : decode cX12_init 78 = .ok (.bipush 120, 2) := by decide +kernel
theorem dX12_init_80 : decode cX12_init 80 = .ok (.newarray .int, 2) := by decide +kernel
theorem dX12_init_82 : decode cX12_init 82 = .ok (.putfield 37, 3) := by decide +kernel
theorem dX12_init_85 : decode cX12_init 85 = .ok (.aload_n 0, 1) := by decide +kernel
theorem dX12_init_86 : decode cX12_init 86 = .ok (.iconst 1, 1) := by decide +kernel
theorem dX12_init_87 : decode cX12_init 87 = .ok (.putfield 40, 3) := by decide +kernel
theorem dX12_init_90 : decode cX12_init 90 = .ok (.aload_n 0, 1) := by decide +kernel
theorem dX12_init_91 : decode cX12_init 91 = .ok (.iconst 4, 1) := by decide +kernel
theorem dX12_init_92 : decode cX12_init 92 = .ok (.newarray .int, 2) := by decide +kernel
theorem dX12_init_94 : decode cX12_init 94 = .ok (.putfield 44, 3) := by decide +kernel
theorem dX12_init_97 : decode cX12_init 97 = .ok (.return_, 1) := by decide +kernel
theorem dX12_thrown_0 : decode cX12_thrown 0 = .ok (.aload_n 0, 1) := by decide +kernel
theorem dX12_thrown_1 : decode cX12_thrown 1 = .ok (.getfield 47, 3) := by decide +kernel
theorem dX12_thrown_4 : decode cX12_thrown 4 = .ok (.ireturn, 1) := by decide +kernel
theorem dX12_isIn_0 : decode cX12_isIn 0 = .ok (.lload_n 0, 1) := by decide +kernel
theorem dX12_isIn_1 : decode cX12_isIn 1 = .ok (.lload_n 2, 1) := by decide +kernel
theorem dX12_isIn_2 : decode cX12_isIn 2 = .ok (.lcmp, 1) := by decide +kernel
theorem dX12_isIn_3 : decode cX12_isIn 3 = .ok (.ifCond .lt 14, 3) := by decide +kernel
theorem dX12_isIn_6 : decode cX12_isIn 6 = .ok (.lload_n 0, 1) := by decide +kernel
theorem dX12_isIn_7 : decode cX12_isIn 7 = .ok (.lload 4, 2) := by decide +kernel
theorem dX12_isIn_9 : decode cX12_isIn 9 = .ok (.lcmp, 1) := by decide +kernel
theorem dX12_isIn_10 : decode cX12_isIn 10 = .ok (.ifCond .gt 7, 3) := by decide +kernel
theorem dX12_isIn_13 : decode cX12_isIn 13 = .ok (.iconst 1, 1) := by decide +kernel
theorem dX12_isIn_14 : decode cX12_isIn 14 = .ok (.goto 4, 3) := by decide +kernel
theorem dX12_isIn_17 : decode cX12_isIn 17 = .ok (.iconst 0, 1) := by decide +kernel
theorem dX12_isIn_18 : decode cX12_isIn 18 = .ok (.ireturn, 1) := by decide +kernel
set_option maxRecDepth 20000 in
theorem ggX12_isSort_X12_isIn : GoodIn wsX12_isSort wsX12_isIn := goodIn_r _ [5] (by decide +kernel) (by decide +kernel)
set_option maxRecDepth 20000 in
theorem gX12_isSort_X12_isIn : GoodIn wsX12_isSort (va_wsS RX12 50 yX12_isIn wsX12_isIn) := goodIn_app (goodIn_of _ (by decide +kernel)) ggX12_isSort_X12_isIn
theorem dX12_isSort_0 : decode cX12_isSort 0 = .ok (.iload_n 1, 1) := by decide +kernel
theorem dX12_isSort_1 : decode cX12_isSort 1 = .ok (.i2l, 1) := by decide +kernel
theorem dX12_isSort_2 : decode cX12_isSort 2 = .ok (.lconst 0, 1) := by decide +kernel
theorem dX12_isSort_3 : decode cX12_isSort 3 = .ok (.aload_n 0, 1) := by decide +kernel
theorem dX12_isSort_4 : decode cX12_isSort 4 = .ok (.getfield 9, 3) := by decide +kernel
theorem dX12_isSort_7 : decode cX12_isSort 7 = .ok (.iconst 0, 1) := by decide +kernel
theorem dX12_isSort_8 : decode cX12_isSort 8 = .ok (.iaload, 1) := by decide +kernel
theorem dX12_isSort_9 : decode cX12_isSort 9 = .ok (.iconst 1, 1) := by decide +kernel
theorem dX12_isSort_10 : decode cX12_isSort 10 = .ok (.isub, 1) := by decide +kernel
theorem dX12_isSort_11 : decode cX12_isSort 11 = .ok (.i2l, 1) := by decide +kernel
theorem dX12_isSort_12 : decode cX12_isSort 12 = .ok (.invokestatic 50, 3) := by decide +kernel
theorem dX12_isSort_15 : decode cX12_isSort 15 = .ok (.ireturn, 1) := by decide +kernel
set_option maxRecDepth 20000 in
theorem ggX12_isMark_X12_isIn : GoodIn wsX12_isMark wsX12_isIn := goodIn_r _ [5] (by decide +kernel) (by decide +kernel)
set_option maxRecDepth 20000 in
theorem gX12_isMark_X12_isIn : GoodIn wsX12_isMark (va_wsS RX12 50 yX12_isIn wsX12_isIn) := goodIn_app (goodIn_of _ (by decide +kernel)) ggX12_isMark_X12_isIn
theorem dX12_isMark_0 : decode cX12_isMark 0 = .ok (.iload_n 1, 1) := by decide +kernel
theorem dX12_isMark_1 : decode cX12_isMark 1 = .ok (.i2l, 1) := by decide +kernel
theorem dX12_isMark_2 : decode cX12_isMark 2 = .ok (.lconst 0, 1) := by decide +kernel
theorem dX12_isMark_3 : decode cX12_isMark 3 = .ok (.aload_n 0, 1) := by decide +kernel
theorem dX12_isMark_4 : decode cX12_isMark 4 = .ok (.getfield 9, 3) := by decide +kernel
theorem dX12_isMark_7 : decode cX12_isMark 7 = .ok (.iconst 1, 1) := by decide +kernel
theorem dX12_isMark_8 : decode cX12_isMark 8 = .ok (.iaload, 1) := by decide +kernel
theorem dX12_isMark_9 : decode cX12_isMark 9 = .ok (.iconst 1, 1) := by decide +kernel
theorem dX12_isMark_10 : decode cX12_isMark 10 = .ok (.isub, 1) := by decide +kernel
theorem dX12_isMark_11 : decode cX12_isMark 11 = .ok (.i2l, 1) := by decide +kernel
theorem dX12_isMark_12 : decode cX12_isMark 12 = .ok (.invokestatic 50, 3) := by decide +kernel
theorem dX12_isMark_15 : decode cX12_isMark 15 = .ok (.ireturn, 1) := by decide +kernel
theorem dX12_isOpen_0 : decode cX12_isOpen 0 = .ok (.aload_n 0, 1) := by decide +kernel
theorem dX12_isOpen_1 : decode cX12_isOpen 1 = .ok (.getfield 9, 3) := by decide +kernel
theorem dX12_isOpen_4 : decode cX12_isOpen 4 = .ok (.iconst 0, 1) := by decide +kernel
theorem dX12_isOpen_5 : decode cX12_isOpen 5 = .ok (.iaload, 1) := by decide +kernel
theorem dX12_isOpen_6 : decode cX12_isOpen 6 = .ok (.ifCond .le 7, 3) := by decide +kernel
theorem dX12_isOpen_9 : decode cX12_isOpen 9 = .ok (.iconst 1, 1) := by decide +kernel
theorem dX12_isOpen_10 : decode cX12_isOpen 10 = .ok (.goto 4, 3) := by decide +kernel
theorem dX12_isOpen_13 : decode cX12_isOpen 13 = .ok (.iconst 0, 1) := by decide +kernel
theorem dX12_isOpen_14 : decode cX12_isOpen 14 = .ok (.ireturn, 1) := by decide +kernel
set_option maxRecDepth 20000 in
theorem ggX12_isShelf_X12_isIn : GoodIn wsX12_isShelf wsX12_isIn := goodIn_r _ [5] (by decide +kernel) (by decide +kernel)
set_option maxRecDepth 20000 in
theorem gX12_isShelf_X12_isIn : GoodIn wsX12_isShelf (va_wsS RX12 50 yX12_isIn wsX12_isIn) := goodIn_app (goodIn_of _ (by decide +kernel)) ggX12_isShelf_X12_isIn
theorem dX12_isShelf_0 : decode cX12_isShelf 0 = .ok (.iload_n 0, 1) := by decide +kernel
theorem dX12_isShelf_1 : decode cX12_isShelf 1 = .ok (.i2l, 1) := by decide +kernel
theorem dX12_isShelf_2 : decode cX12_isShelf 2 = .ok (.lconst 0, 1) := by decide +kernel
theorem dX12_isShelf_3 : decode cX12_isShelf 3 = .ok (.ldc2_w 54, 3) := by decide +kernel
theorem dX12_isShelf_6 : decode cX12_isShelf 6 = .ok (.invokestatic 50, 3) := by decide +kernel
theorem dX12_isShelf_9 : decode cX12_isShelf 9 = .ok (.ireturn, 1) := by decide +kernel
theorem dX12_becomes_0 : decode cX12_becomes 0 = .ok (.aload_n 0, 1) := by decide +kernel
theorem dX12_becomes_1 : decode cX12_becomes 1 = .ok (.getfield 9, 3) := by decide +kernel
theorem dX12_becomes_4 : decode cX12_becomes 4 = .ok (.iload_n 1, 1) := by decide +kernel
theorem dX12_becomes_5 : decode cX12_becomes 5 = .ok (.iaload, 1) := by decide +kernel
theorem dX12_becomes_6 : decode cX12_becomes 6 = .ok (.istore_n 3, 1) := by decide +kernel
theorem dX12_becomes_7 : decode cX12_becomes 7 = .ok (.aload_n 0, 1) := by decide +kernel
theorem dX12_becomes_8 : decode cX12_becomes 8 = .ok (.getfield 9, 3) := by decide +kernel
theorem dX12_becomes_11 : decode cX12_becomes 11 = .ok (.iload_n 1, 1) := by decide +kernel
theorem dX12_becomes_12 : decode cX12_becomes 12 = .ok (.iload_n 2, 1) := by decide +kernel
theorem dX12_becomes_13 : decode cX12_becomes 13 = .ok (.iastore, 1) := by decide +kernel
theorem dX12_becomes_14 : decode cX12_becomes 14 = .ok (.iload_n 3, 1) := by decide +kernel
theorem dX12_becomes_15 : decode cX12_becomes 15 = .ok (.ireturn, 1) := by decide +kernel
theorem dX12_sign_0 : decode cX12_sign 0 = .ok (.aload_n 0, 1) := by decide +kernel
theorem dX12_sign_1 : decode cX12_sign 1 = .ok (.getfield 56, 3) := by decide +kernel
theorem dX12_sign_4 : decode cX12_sign 4 = .ok (.aload_n 0, 1) := by decide +kernel
theorem dX12_sign_5 : decode cX12_sign 5 = .ok (.getfield 59, 3) := by decide +kernel
theorem dX12_sign_8 : decode cX12_sign 8 = .ok (.if_icmp .ge 20, 3) := by decide +kernel
theorem dX12_sign_11 : decode cX12_sign 11 = .ok (.aload_n 0, 1) := by decide +kernel
theorem dX12_sign_12 : decode cX12_sign 12 = .ok (.getfield 28, 3) := by decide +kernel
theorem dX12_sign_15 : decode cX12_sign 15 = .ok (.aload_n 0, 1) := by decide +kernel
theorem dX12_sign_16 : decode cX12_sign 16 = .ok (.getfield 62, 3) := by decide +kernel
theorem dX12_sign_19 : decode cX12_sign 19 = .ok (.aload_n 0, 1) := by decide +kernel
theorem dX12_sign_20 : decode cX12_sign 20 = .ok (.getfield 56, 3) := by decide +kernel
theorem dX12_sign_23 : decode cX12_sign 23 = .ok (.iadd, 1) := by decide +kernel
theorem dX12_sign_24 : decode cX12_sign 24 = .ok (.iaload, 1) := by decide +kernel
theorem dX12_sign_25 : decode cX12_sign 25 = .ok (.goto 6, 3) := by decide +kernel
theorem dX12_sign_28 : decode cX12_sign 28 = .ok (.sipush (-1000), 3) := by decide +kernel
theorem dX12_sign_31 : decode cX12_sign 31 = .ok (.ireturn, 1) := by decide +kernel
set_option maxRecDepth 20000 in
theorem ggX12_takes_X12_sign : GoodIn wsX12_takes wsX12_sign := goodIn_r _ [6, 1, 7, 8, 9, 10, 11, 12, 13, 14, 15, 16, 17, 18, 19, 20, 21, 22, 23, 24, 25, 26, 27, 28, 29, 30, 31, 32, 33] (by decide +kernel) (by decide +kernel)
set_option maxRecDepth 20000 in
theorem gX12_takes_X12_sign : GoodIn wsX12_takes (wsV RX12 65 RX12 yX12_sign wsX12_sign) := goodIn_app (goodIn_of _ (by decide +kernel)) ggX12_takes_X12_sign
theorem dX12_takes_0 : decode cX12_takes 0 = .ok (.aload_n 0, 1) := by decide +kernel
theorem dX12_takes_1 : decode cX12_takes 1 = .ok (.invokevirtual 65, 3) := by decide +kernel
theorem dX12_takes_4 : decode cX12_takes 4 = .ok (.iload_n 1, 1) := by decide +kernel
theorem dX12_takes_5 : decode cX12_takes 5 = .ok (.if_icmp .eq 5, 3) := by decide +kernel
theorem dX12_takes_8 : decode cX12_takes 8 = .ok (.iconst 0, 1) := by decide +kernel
theorem dX12_takes_9 : decode cX12_takes 9 = .ok (.ireturn, 1) := by decide +kernel
theorem dX12_takes_10 : decode cX12_takes 10 = .ok (.aload_n 0, 1) := by decide +kernel
theorem dX12_takes_11 : decode cX12_takes 11 = .ok (.dup, 1) := by decide +kernel
theorem dX12_takes_12 : decode cX12_takes 12 = .ok (.getfield 56, 3) := by decide +kernel
theorem dX12_takes_15 : decode cX12_takes 15 = .ok (.iconst 1, 1) := by decide +kernel
theorem dX12_takes_16 : decode cX12_takes 16 = .ok (.iadd, 1) := by decide +kernel
theorem dX12_takes_17 : decode cX12_takes 17 = .ok (.putfield 56, 3) := by decide +kernel
theorem dX12_takes_20 : decode cX12_takes 20 = .ok (.iconst 1, 1) := by decide +kernel
theorem dX12_takes_21 : decode cX12_takes 21 = .ok (.ireturn, 1) := by decide +kernel
set_option maxRecDepth 20000 in
theorem ggX12_readsNumber_X12_sign : GoodIn wsX12_readsNumber wsX12_sign := goodIn_r _ [11, 4, 12, 13, 14, 18, 19, 20, 21, 22, 23, 24, 25, 26, 27, 28, 29, 30, 31, 32, 33, 34, 35, 36, 37, 38, 39, 40, 41] (by decide +kernel) (by decide +kernel)
set_option maxRecDepth 20000 in
theorem gX12_readsNumber_X12_sign : GoodIn wsX12_readsNumber (wsV RX12 65 RX12 yX12_sign wsX12_sign) := goodIn_app (goodIn_of _ (by decide +kernel)) ggX12_readsNumber_X12_sign
set_option maxRecDepth 20000 in
theorem ggX12_readsNumber_X12_isIn : GoodIn wsX12_readsNumber wsX12_isIn := goodIn_r _ [17] (by decide +kernel) (by decide +kernel)
set_option maxRecDepth 20000 in
theorem gX12_readsNumber_X12_isIn : GoodIn wsX12_readsNumber (va_wsS RX12 50 yX12_isIn wsX12_isIn) := goodIn_app (goodIn_of _ (by decide +kernel)) ggX12_readsNumber_X12_isIn
theorem dX12_readsNumber_0 : decode cX12_readsNumber 0 = .ok (.aload_n 0, 1) := by decide +kernel
theorem dX12_readsNumber_1 : decode cX12_readsNumber 1 = .ok (.invokevirtual 65, 3) := by decide +kernel
theorem dX12_readsNumber_4 : decode cX12_readsNumber 4 = .ok (.i2l, 1) := by decide +kernel
theorem dX12_readsNumber_5 : decode cX12_readsNumber 5 = .ok (.ldc2_w 69, 3) := by decide +kernel
theorem dX12_readsNumber_8 : decode cX12_readsNumber 8 = .ok (.ldc2_w 71, 3) := by decide +kernel
theorem dX12_readsNumber_11 : decode cX12_readsNumber 11 = .ok (.invokestatic 50, 3) := by decide +kernel
theorem dX12_readsNumber_14 : decode cX12_readsNumber 14 = .ok (.ifCond .ne 5, 3) := by decide +kernel
theorem dX12_readsNumber_17 : decode cX12_readsNumber 17 = .ok (.iconst 0, 1) := by decide +kernel
theorem dX12_readsNumber_18 : decode cX12_readsNumber 18 = .ok (.ireturn, 1) := by decide +kernel
theorem dX12_readsNumber_19 : decode cX12_readsNumber 19 = .ok (.aload_n 0, 1) := by decide +kernel
theorem dX12_readsNumber_20 : decode cX12_readsNumber 20 = .ok (.aload_n 0, 1) := by decide +kernel
theorem dX12_readsNumber_21 : decode cX12_readsNumber 21 = .ok (.invokevirtual 65, 3) := by decide +kernel
theorem dX12_readsNumber_24 : decode cX12_readsNumber 24 = .ok (.bipush 48, 2) := by decide +kernel
theorem dX12_readsNumber_26 : decode cX12_readsNumber 26 = .ok (.isub, 1) := by decide +kernel
theorem dX12_readsNumber_27 : decode cX12_readsNumber 27 = .ok (.putfield 73, 3) := by decide +kernel
theorem dX12_readsNumber_30 : decode cX12_readsNumber 30 = .ok (.aload_n 0, 1) := by decide +kernel
theorem dX12_readsNumber_31 : decode cX12_readsNumber 31 = .ok (.dup, 1) := by decide +kernel
theorem dX12_readsNumber_32 : decode cX12_readsNumber 32 = .ok (.getfield 56, 3) := by decide +kernel
theorem dX12_readsNumber_35 : decode cX12_readsNumber 35 = .ok (.iconst 1, 1) := by decide +kernel
theorem dX12_readsNumber_36 : decode cX12_readsNumber 36 = .ok (.iadd, 1) := by decide +kernel
theorem dX12_readsNumber_37 : decode cX12_readsNumber 37 = .ok (.putfield 56, 3) := by decide +kernel
theorem dX12_readsNumber_40 : decode cX12_readsNumber 40 = .ok (.iconst 1, 1) := by decide +kernel
theorem dX12_readsNumber_41 : decode cX12_readsNumber 41 = .ok (.istore_n 1, 1) := by decide +kernel
theorem dX12_readsNumber_42 : decode cX12_readsNumber 42 = .ok (.iload_n 1, 1) := by decide +kernel
theorem dX12_readsNumber_43 : decode cX12_readsNumber 43 = .ok (.iconst 3, 1) := by decide +kernel
theorem dX12_readsNumber_44 : decode cX12_readsNumber 44 = .ok (.if_icmp .ge 62, 3) := by decide +kernel
theorem dX12_readsNumber_47 : decode cX12_readsNumber 47 = .ok (.aload_n 0, 1) := by decide +kernel
theorem dX12_readsNumber_48 : decode cX12_readsNumber 48 = .ok (.getfield 73, 3) := by decide +kernel
theorem dX12_readsNumber_51 : decode cX12_readsNumber 51 = .ok (.ifCond .le 55, 3) := by decide +kernel
theorem dX12_readsNumber_54 : decode cX12_readsNumber 54 = .ok (.aload_n 0, 1) := by decide +kernel
theorem dX12_readsNumber_55 : decode cX12_readsNumber 55 = .ok (.invokevirtual 65, 3) := by decide +kernel
theorem dX12_readsNumber_58 : decode cX12_readsNumber 58 = .ok (.i2l, 1) := by decide +kernel
theorem dX12_readsNumber_59 : decode cX12_readsNumber 59 = .ok (.ldc2_w 69, 3) := by decide +kernel
theorem dX12_readsNumber_62 : decode cX12_readsNumber 62 = .ok (.ldc2_w 71, 3) := by decide +kernel
theorem dX12_readsNumber_65 : decode cX12_readsNumber 65 = .ok (.invokestatic 50, 3) := by decide +kernel
theorem dX12_readsNumber_68 : decode cX12_readsNumber 68 = .ok (.ifCond .eq 38, 3) := by decide +kernel
theorem dX12_readsNumber_71 : decode cX12_readsNumber 71 = .ok (.aload_n 0, 1) := by decide +kernel
theorem dX12_readsNumber_72 : decode cX12_readsNumber 72 = .ok (.bipush 10, 2) := by decide +kernel
theorem dX12_readsNumber_74 : decode cX12_readsNumber 74 = .ok (.aload_n 0, 1) := by decide +kernel
theorem dX12_readsNumber_75 : decode cX12_readsNumber 75 = .ok (.getfield 73, 3) := by decide +kernel
theorem dX12_readsNumber_78 : decode cX12_readsNumber 78 = .ok (.imul, 1) := by decide +kernel
theorem dX12_readsNumber_79 : decode cX12_readsNumber 79 = .ok (.aload_n 0, 1) := by decide +kernel
theorem dX12_readsNumber_80 : decode cX12_readsNumber 80 = .ok (.invokevirtual 65, 3) := by decide +kernel
theorem dX12_readsNumber_83 : decode cX12_readsNumber 83 = .ok (.iadd, 1) := by decide +kernel
theorem dX12_readsNumber_84 : decode cX12_readsNumber 84 = .ok (.bipush 48, 2) := by decide +kernel
theorem dX12_readsNumber_86 : decode cX12_readsNumber 86 = .ok (.isub, 1) := by decide +kernel
theorem dX12_readsNumber_87 : decode cX12_readsNumber 87 = .ok (.putfield 73, 3) := by decide +kernel
theorem dX12_readsNumber_90 : decode cX12_readsNumber 90 = .ok (.aload_n 0, 1) := by decide +kernel
theorem dX12_readsNumber_91 : decode cX12_readsNumber 91 = .ok (.dup, 1) := by decide +kernel
theorem dX12_readsNumber_92 : decode cX12_readsNumber 92 = .ok (.getfield 56, 3) := by decide +kernel
theorem dX12_readsNumber_95 : decode cX12_readsNumber 95 = .ok (.iconst 1, 1) := by decide +kernel
theorem dX12_readsNumber_96 : decode cX12_readsNumber 96 = .ok (.iadd, 1) := by decide +kernel
theorem dX12_readsNumber_97 : decode cX12_readsNumber 97 = .ok (.putfield 56, 3) := by decide +kernel
theorem dX12_readsNumber_100 : decode cX12_readsNumber 100 = .ok (.iinc 1 1, 3) := by decide +kernel
theorem dX12_readsNumber_103 : decode cX12_readsNumber 103 = .ok (.goto (-61), 3) := by decide +kernel
theorem dX12_readsNumber_106 : decode cX12_readsNumber 106 = .ok (.aload_n 0, 1) := by decide +kernel
theorem dX12_readsNumber_107 : decode cX12_readsNumber 107 = .ok (.getfield 37, 3) := by decide +kernel
theorem dX12_readsNumber_110 : decode cX12_readsNumber 110 = .ok (.aload_n 0, 1) := by decide +kernel
theorem dX12_readsNumber_111 : decode cX12_readsNumber 111 = .ok (.getfield 76, 3) := by decide +kernel
theorem dX12_readsNumber_114 : decode cX12_readsNumber 114 = .ok (.aload_n 0, 1) := by decide +kernel
theorem dX12_readsNumber_115 : decode cX12_readsNumber 115 = .ok (.getfield 73, 3) := by decide +kernel
theorem dX12_readsNumber_118 : decode cX12_readsNumber 118 = .ok (.iastore, 1) := by decide +kernel
theorem dX12_readsNumber_119 : decode cX12_readsNumber 119 = .ok (.aload_n 0, 1) := by decide +kernel
theorem dX12_readsNumber_120 : decode cX12_readsNumber 120 = .ok (.dup, 1) := by decide +kernel
theorem dX12_readsNumber_121 : decode cX12_readsNumber 121 = .ok (.getfield 76, 3) := by decide +kernel
theorem dX12_readsNumber_124 : decode cX12_readsNumber 124 = .ok (.iconst 1, 1) := by decide +kernel
theorem dX12_readsNumber_125 : decode cX12_readsNumber 125 = .ok (.iadd, 1) := by decide +kernel
theorem dX12_readsNumber_126 : decode cX12_readsNumber 126 = .ok (.putfield 76, 3) := by decide +kernel
theorem dX12_readsNumber_129 : decode cX12_readsNumber 129 = .ok (.iconst 1, 1) := by decide +kernel
theorem dX12_readsNumber_130 : decode cX12_readsNumber 130 = .ok (.ireturn, 1) := by decide +kernel
set_option maxRecDepth 20000 in
theorem ggX12_readsStatement_X12_sign : GoodIn wsX12_readsStatement wsX12_sign := goodIn_r _ [7, 2, 8, 9, 10, 26, 27, 28, 29, 30, 31, 32, 33, 34, 35, 36, 37, 38, 39, 40, 41, 42, 43, 44, 45, 46, 47, 48, 49] (by decide +kernel) (by decide +kernel)
set_option maxRecDepth 20000 in
theorem gX12_readsStatement_X12_sign : GoodIn wsX12_readsStatement (wsV RX12 65 RX12 yX12_sign wsX12_sign) := goodIn_app (goodIn_of _ (by decide +kernel)) ggX12_readsStatement_X12_sign
set_option maxRecDepth 20000 in
theorem ggX12_readsStatement_X12_readsNumber : GoodIn wsX12_readsStatement wsX12_readsNumber := goodIn_r _ [14, 15, 16, 17, 2, 18, 1, 3, 4, 5, 6, 7, 8, 9, 10, 19, 20, 21, 26, 27, 28, 29, 30, 31, 32, 33, 34, 35, 36, 37, 38, 39, 40, 41, 42, 43, 44, 45, 46, 47, 48, 49] (by decide +kernel) (by decide +kernel)
set_option maxRecDepth 20000 in
theorem gX12_readsStatement_X12_readsNumber : GoodIn wsX12_readsStatement (wsV RX12 79 RX12 yX12_readsNumber wsX12_readsNumber) := goodIn_app (goodIn_of _ (by decide +kernel)) ggX12_readsStatement_X12_readsNumber
set_option maxRecDepth 20000 in
theorem ggX12_readsStatement_X12_takes : GoodIn wsX12_readsStatement wsX12_takes := goodIn_r _ [25, 2, 3, 4, 5, 6, 7, 8, 9, 10, 26, 27, 28, 29, 30, 31, 32, 33, 34, 35, 36, 37, 38, 39, 40, 41, 42, 43, 44, 45, 46, 47, 48, 49] (by decide +kernel) (by decide +kernel)
set_option maxRecDepth 20000 in
theorem gX12_readsStatement_X12_takes : GoodIn wsX12_readsStatement (wsV RX12 83 RX12 yX12_takes wsX12_takes) := goodIn_app (goodIn_of _ (by decide +kernel)) ggX12_readsStatement_X12_takes
theorem dX12_readsStatement_0 : decode cX12_readsStatement 0 = .ok (.aload_n 0, 1) := by decide +kernel
theorem dX12_readsStatement_1 : decode cX12_readsStatement 1 = .ok (.invokevirtual 65, 3) := by decide +kernel
theorem dX12_readsStatement_4 : decode cX12_readsStatement 4 = .ok (.istore_n 1, 1) := by decide +kernel
theorem dX12_readsStatement_5 : decode cX12_readsStatement 5 = .ok (.aload_n 0, 1) := by decide +kernel
theorem dX12_readsStatement_6 : decode cX12_readsStatement 6 = .ok (.iconst 0, 1) := by decide +kernel
theorem dX12_readsStatement_7 : decode cX12_readsStatement 7 = .ok (.putfield 76, 3) := by decide +kernel
theorem dX12_readsStatement_10 : decode cX12_readsStatement 10 = .ok (.iload_n 1, 1) := by decide +kernel
theorem dX12_readsStatement_11 : decode cX12_readsStatement 11 = .ok (.bipush 115, 2) := by decide +kernel
theorem dX12_readsStatement_13 : decode cX12_readsStatement 13 = .ok (.if_icmp .eq 17, 3) := by decide +kernel
theorem dX12_readsStatement_16 : decode cX12_readsStatement 16 = .ok (.iload_n 1, 1) := by decide +kernel
theorem dX12_readsStatement_17 : decode cX12_readsStatement 17 = .ok (.bipush 109, 2) := by decide +kernel
theorem dX12_readsStatement_19 : decode cX12_readsStatement 19 = .ok (.if_icmp .eq 11, 3) := by decide +kernel
theorem dX12_readsStatement_22 : decode cX12_readsStatement 22 = .ok (.iload_n 1, 1) := by decide +kernel
theorem dX12_readsStatement_23 : decode cX12_readsStatement 23 = .ok (.bipush 116, 2) := by decide +kernel
theorem dX12_readsStatement_25 : decode cX12_readsStatement 25 = .ok (.if_icmp .eq 5, 3) := by decide +kernel
theorem dX12_readsStatement_28 : decode cX12_readsStatement 28 = .ok (.iconst 0, 1) := by decide +kernel
theorem dX12_readsStatement_29 : decode cX12_readsStatement 29 = .ok (.ireturn, 1) := by decide +kernel
theorem dX12_readsStatement_30 : decode cX12_readsStatement 30 = .ok (.aload_n 0, 1) := by decide +kernel
theorem dX12_readsStatement_31 : decode cX12_readsStatement 31 = .ok (.dup, 1) := by decide +kernel
theorem dX12_readsStatement_32 : decode cX12_readsStatement 32 = .ok (.getfield 56, 3) := by decide +kernel
theorem dX12_readsStatement_35 : decode cX12_readsStatement 35 = .ok (.iconst 1, 1) := by decide +kernel
theorem dX12_readsStatement_36 : decode cX12_readsStatement 36 = .ok (.iadd, 1) := by decide +kernel
theorem dX12_readsStatement_37 : decode cX12_readsStatement 37 = .ok (.putfield 56, 3) := by decide +kernel
theorem dX12_readsStatement_40 : decode cX12_readsStatement 40 = .ok (.aload_n 0, 1) := by decide +kernel
theorem dX12_readsStatement_41 : decode cX12_readsStatement 41 = .ok (.invokevirtual 79, 3) := by decide +kernel
theorem dX12_readsStatement_44 : decode cX12_readsStatement 44 = .ok (.ifCond .ne 5, 3) := by decide +kernel
theorem dX12_readsStatement_47 : decode cX12_readsStatement 47 = .ok (.iconst 0, 1) := by decide +kernel
theorem dX12_readsStatement_48 : decode cX12_readsStatement 48 = .ok (.ireturn, 1) := by decide +kernel
theorem dX12_readsStatement_49 : decode cX12_readsStatement 49 = .ok (.iload_n 1, 1) := by decide +kernel
theorem dX12_readsStatement_50 : decode cX12_readsStatement 50 = .ok (.bipush 115, 2) := by decide +kernel
theorem dX12_readsStatement_52 : decode cX12_readsStatement 52 = .ok (.if_icmp .ne 7, 3) := by decide +kernel
theorem dX12_readsStatement_55 : decode cX12_readsStatement 55 = .ok (.iconst 3, 1) := by decide +kernel
theorem dX12_readsStatement_56 : decode cX12_readsStatement 56 = .ok (.goto 15, 3) := by decide +kernel
theorem dX12_readsStatement_59 : decode cX12_readsStatement 59 = .ok (.iload_n 1, 1) := by decide +kernel
theorem dX12_readsStatement_60 : decode cX12_readsStatement 60 = .ok (.bipush 116, 2) := by decide +kernel
theorem dX12_readsStatement_62 : decode cX12_readsStatement 62 = .ok (.if_icmp .ne 7, 3) := by decide +kernel
theorem dX12_readsStatement_65 : decode cX12_readsStatement 65 = .ok (.iconst 2, 1) := by decide +kernel
theorem dX12_readsStatement_66 : decode cX12_readsStatement 66 = .ok (.goto 5, 3) := by decide +kernel
theorem dX12_readsStatement_69 : decode cX12_readsStatement 69 = .ok (.bipush 120, 2) := by decide +kernel
theorem dX12_readsStatement_71 : decode cX12_readsStatement 71 = .ok (.istore_n 2, 1) := by decide +kernel
theorem dX12_readsStatement_72 : decode cX12_readsStatement 72 = .ok (.iload_n 1, 1) := by decide +kernel
theorem dX12_readsStatement_73 : decode cX12_readsStatement 73 = .ok (.bipush 109, 2) := by decide +kernel
theorem dX12_readsStatement_75 : decode cX12_readsStatement 75 = .ok (.if_icmp .ne 7, 3) := by decide +kernel
theorem dX12_readsStatement_78 : decode cX12_readsStatement 78 = .ok (.iconst 1, 1) := by decide +kernel
theorem dX12_readsStatement_79 : decode cX12_readsStatement 79 = .ok (.goto 4, 3) := by decide +kernel
theorem dX12_readsStatement_82 : decode cX12_readsStatement 82 = .ok (.iload_n 2, 1) := by decide +kernel
theorem dX12_readsStatement_83 : decode cX12_readsStatement 83 = .ok (.istore_n 3, 1) := by decide +kernel
theorem dX12_readsStatement_84 : decode cX12_readsStatement 84 = .ok (.aload_n 0, 1) := by decide +kernel
theorem dX12_readsStatement_85 : decode cX12_readsStatement 85 = .ok (.getfield 76, 3) := by decide +kernel
theorem dX12_readsStatement_88 : decode cX12_readsStatement 88 = .ok (.iload_n 2, 1) := by decide +kernel
theorem dX12_readsStatement_89 : decode cX12_readsStatement 89 = .ok (.if_icmp .ge 38, 3) := by decide +kernel
theorem dX12_readsStatement_92 : decode cX12_readsStatement 92 = .ok (.aload_n 0, 1) := by decide +kernel
theorem dX12_readsStatement_93 : decode cX12_readsStatement 93 = .ok (.getfield 76, 3) := by decide +kernel
theorem dX12_readsStatement_96 : decode cX12_readsStatement 96 = .ok (.iload_n 3, 1) := by decide +kernel
theorem dX12_readsStatement_97 : decode cX12_readsStatement 97 = .ok (.if_icmp .lt 12, 3) := by decide +kernel
theorem dX12_readsStatement_100 : decode cX12_readsStatement 100 = .ok (.aload_n 0, 1) := by decide +kernel
theorem dX12_readsStatement_101 : decode cX12_readsStatement 101 = .ok (.invokevirtual 65, 3) := by decide +kernel
theorem dX12_readsStatement_104 : decode cX12_readsStatement 104 = .ok (.bipush 32, 2) := by decide +kernel
theorem dX12_readsStatement_106 : decode cX12_readsStatement 106 = .ok (.if_icmp .ne 21, 3) := by decide +kernel
theorem dX12_readsStatement_109 : decode cX12_readsStatement 109 = .ok (.aload_n 0, 1) := by decide +kernel
theorem dX12_readsStatement_110 : decode cX12_readsStatement 110 = .ok (.bipush 32, 2) := by decide +kernel
theorem dX12_readsStatement_112 : decode cX12_readsStatement 112 = .ok (.invokevirtual 83, 3) := by decide +kernel
theorem dX12_readsStatement_115 : decode cX12_readsStatement 115 = .ok (.ifCond .eq 10, 3) := by decide +kernel
theorem dX12_readsStatement_118 : decode cX12_readsStatement 118 = .ok (.aload_n 0, 1) := by decide +kernel
theorem dX12_readsStatement_119 : decode cX12_readsStatement 119 = .ok (.invokevirtual 79, 3) := by decide +kernel
theorem dX12_readsStatement_122 : decode cX12_readsStatement 122 = .ok (.ifCond .ne (-38), 3) := by decide +kernel
theorem dX12_readsStatement_125 : decode cX12_readsStatement 125 = .ok (.iconst 0, 1) := by decide +kernel
theorem dX12_readsStatement_126 : decode cX12_readsStatement 126 = .ok (.ireturn, 1) := by decide +kernel
theorem dX12_readsStatement_127 : decode cX12_readsStatement 127 = .ok (.aload_n 0, 1) := by decide +kernel
theorem dX12_readsStatement_128 : decode cX12_readsStatement 128 = .ok (.bipush 59, 2) := by decide +kernel
theorem dX12_readsStatement_130 : decode cX12_readsStatement 130 = .ok (.invokevirtual 83, 3) := by decide +kernel
theorem dX12_readsStatement_133 : decode cX12_readsStatement 133 = .ok (.ireturn, 1) := by decide +kernel
set_option maxRecDepth 20000 in
theorem ggX12_comes_X12_isIn : GoodIn wsX12_comes wsX12_isIn := goodIn_r _ [8] (by decide +kernel) (by decide +kernel)
set_option maxRecDepth 20000 in
theorem gX12_comes_X12_isIn : GoodIn wsX12_comes (va_wsS RX12 50 yX12_isIn wsX12_isIn) := goodIn_app (goodIn_of _ (by decide +kernel)) ggX12_comes_X12_isIn
theorem dX12_comes_0 : decode cX12_comes 0 = .ok (.iload_n 1, 1) := by decide +kernel
theorem dX12_comes_1 : decode cX12_comes 1 = .ok (.bipush 115, 2) := by decide +kernel
theorem dX12_comes_3 : decode cX12_comes 3 = .ok (.if_icmp .ne 99, 3) := by decide +kernel
theorem dX12_comes_6 : decode cX12_comes 6 = .ok (.aload_n 0, 1) := by decide +kernel
theorem dX12_comes_7 : decode cX12_comes 7 = .ok (.getfield 16, 3) := by decide +kernel
theorem dX12_comes_10 : decode cX12_comes 10 = .ok (.iconst 0, 1) := by decide +kernel
theorem dX12_comes_11 : decode cX12_comes 11 = .ok (.iaload, 1) := by decide +kernel
theorem dX12_comes_12 : decode cX12_comes 12 = .ok (.istore_n 2, 1) := by decide +kernel
theorem dX12_comes_13 : decode cX12_comes 13 = .ok (.iload_n 2, 1) := by decide +kernel
theorem dX12_comes_14 : decode cX12_comes 14 = .ok (.iconst 4, 1) := by decide +kernel
theorem dX12_comes_15 : decode cX12_comes 15 = .ok (.if_icmp .eq 29, 3) := by decide +kernel
theorem dX12_comes_18 : decode cX12_comes 18 = .ok (.aload_n 0, 1) := by decide +kernel
theorem dX12_comes_19 : decode cX12_comes 19 = .ok (.getfield 16, 3) := by decide +kernel
theorem dX12_comes_22 : decode cX12_comes 22 = .ok (.iconst 1, 1) := by decide +kernel
theorem dX12_comes_23 : decode cX12_comes 23 = .ok (.iaload, 1) := by decide +kernel
theorem dX12_comes_24 : decode cX12_comes 24 = .ok (.ifCond .gt 20, 3) := by decide +kernel
theorem dX12_comes_27 : decode cX12_comes 27 = .ok (.aload_n 0, 1) := by decide +kernel
theorem dX12_comes_28 : decode cX12_comes 28 = .ok (.getfield 37, 3) := by decide +kernel
theorem dX12_comes_31 : decode cX12_comes 31 = .ok (.iconst 0, 1) := by decide +kernel
theorem dX12_comes_32 : decode cX12_comes 32 = .ok (.iaload, 1) := by decide +kernel
theorem dX12_comes_33 : decode cX12_comes 33 = .ok (.i2l, 1) := by decide +kernel
theorem dX12_comes_34 : decode cX12_comes 34 = .ok (.lconst 1, 1) := by decide +kernel
theorem dX12_comes_35 : decode cX12_comes 35 = .ok (.ldc2_w 87, 3) := by decide +kernel
theorem dX12_comes_38 : decode cX12_comes 38 = .ok (.invokestatic 50, 3) := by decide +kernel
theorem dX12_comes_41 : decode cX12_comes 41 = .ok (.ifCond .ne 5, 3) := by decide +kernel
theorem dX12_comes_44 : decode cX12_comes 44 = .ok (.iconst 0, 1) := by decide +kernel
theorem dX12_comes_45 : decode cX12_comes 45 = .ok (.ireturn, 1) := by decide +kernel
theorem dX12_comes_46 : decode cX12_comes 46 = .ok (.aload_n 0, 1) := by decide +kernel
theorem dX12_comes_47 : decode cX12_comes 47 = .ok (.getfield 16, 3) := by decide +kernel
theorem dX12_comes_50 : decode cX12_comes 50 = .ok (.iconst 3, 1) := by decide +kernel
theorem dX12_comes_51 : decode cX12_comes 51 = .ok (.iload_n 2, 1) := by decide +kernel
theorem dX12_comes_52 : decode cX12_comes 52 = .ok (.iadd, 1) := by decide +kernel
theorem dX12_comes_53 : decode cX12_comes 53 = .ok (.aload_n 0, 1) := by decide +kernel
theorem dX12_comes_54 : decode cX12_comes 54 = .ok (.getfield 37, 3) := by decide +kernel
theorem dX12_comes_57 : decode cX12_comes 57 = .ok (.iconst 0, 1) := by decide +kernel
theorem dX12_comes_58 : decode cX12_comes 58 = .ok (.iaload, 1) := by decide +kernel
theorem dX12_comes_59 : decode cX12_comes 59 = .ok (.iastore, 1) := by decide +kernel
theorem dX12_comes_60 : decode cX12_comes 60 = .ok (.aload_n 0, 1) := by decide +kernel
theorem dX12_comes_61 : decode cX12_comes 61 = .ok (.getfield 16, 3) := by decide +kernel
theorem dX12_comes_64 : decode cX12_comes 64 = .ok (.bipush 7, 2) := by decide +kernel
theorem dX12_comes_66 : decode cX12_comes 66 = .ok (.iload_n 2, 1) := by decide +kernel
theorem dX12_comes_67 : decode cX12_comes 67 = .ok (.iadd, 1) := by decide +kernel
theorem dX12_comes_68 : decode cX12_comes 68 = .ok (.aload_n 0, 1) := by decide +kernel
theorem dX12_comes_69 : decode cX12_comes 69 = .ok (.getfield 37, 3) := by decide +kernel
theorem dX12_comes_72 : decode cX12_comes 72 = .ok (.iconst 1, 1) := by decide +kernel
theorem dX12_comes_73 : decode cX12_comes 73 = .ok (.iaload, 1) := by decide +kernel
theorem dX12_comes_74 : decode cX12_comes 74 = .ok (.iastore, 1) := by decide +kernel
theorem dX12_comes_75 : decode cX12_comes 75 = .ok (.aload_n 0, 1) := by decide +kernel
theorem dX12_comes_76 : decode cX12_comes 76 = .ok (.getfield 16, 3) := by decide +kernel
theorem dX12_comes_79 : decode cX12_comes 79 = .ok (.bipush 11, 2) := by decide +kernel
theorem dX12_comes_81 : decode cX12_comes 81 = .ok (.iload_n 2, 1) := by decide +kernel
theorem dX12_comes_82 : decode cX12_comes 82 = .ok (.iadd, 1) := by decide +kernel
theorem dX12_comes_83 : decode cX12_comes 83 = .ok (.aload_n 0, 1) := by decide +kernel
theorem dX12_comes_84 : decode cX12_comes 84 = .ok (.getfield 37, 3) := by decide +kernel
theorem dX12_comes_87 : decode cX12_comes 87 = .ok (.iconst 2, 1) := by decide +kernel
theorem dX12_comes_88 : decode cX12_comes 88 = .ok (.iaload, 1) := by decide +kernel
theorem dX12_comes_89 : decode cX12_comes 89 = .ok (.iastore, 1) := by decide +kernel
theorem dX12_comes_90 : decode cX12_comes 90 = .ok (.aload_n 0, 1) := by decide +kernel
theorem dX12_comes_91 : decode cX12_comes 91 = .ok (.getfield 16, 3) := by decide +kernel
theorem dX12_comes_94 : decode cX12_comes 94 = .ok (.iconst 0, 1) := by decide +kernel
theorem dX12_comes_95 : decode cX12_comes 95 = .ok (.dup2, 1) := by decide +kernel
theorem dX12_comes_96 : decode cX12_comes 96 = .ok (.iaload, 1) := by decide +kernel
theorem dX12_comes_97 : decode cX12_comes 97 = .ok (.iconst 1, 1) := by decide +kernel
theorem dX12_comes_98 : decode cX12_comes 98 = .ok (.iadd, 1) := by decide +kernel
theorem dX12_comes_99 : decode cX12_comes 99 = .ok (.iastore, 1) := by decide +kernel
theorem dX12_comes_100 : decode cX12_comes 100 = .ok (.iconst 1, 1) := by decide +kernel
theorem dX12_comes_101 : decode cX12_comes 101 = .ok (.ireturn, 1) := by decide +kernel
theorem dX12_comes_102 : decode cX12_comes 102 = .ok (.iload_n 1, 1) := by decide +kernel
theorem dX12_comes_103 : decode cX12_comes 103 = .ok (.bipush 116, 2) := by decide +kernel
theorem dX12_comes_105 : decode cX12_comes 105 = .ok (.if_icmp .ne 59, 3) := by decide +kernel
theorem dX12_comes_108 : decode cX12_comes 108 = .ok (.aload_n 0, 1) := by decide +kernel
theorem dX12_comes_109 : decode cX12_comes 109 = .ok (.getfield 37, 3) := by decide +kernel
theorem dX12_comes_112 : decode cX12_comes 112 = .ok (.iconst 0, 1) := by decide +kernel
theorem dX12_comes_113 : decode cX12_comes 113 = .ok (.iaload, 1) := by decide +kernel
theorem dX12_comes_114 : decode cX12_comes 114 = .ok (.aload_n 0, 1) := by decide +kernel
theorem dX12_comes_115 : decode cX12_comes 115 = .ok (.getfield 16, 3) := by decide +kernel
theorem dX12_comes_118 : decode cX12_comes 118 = .ok (.iconst 1, 1) := by decide +kernel
theorem dX12_comes_119 : decode cX12_comes 119 = .ok (.iaload, 1) := by decide +kernel
theorem dX12_comes_120 : decode cX12_comes 120 = .ok (.if_icmp .ge 18, 3) := by decide +kernel
theorem dX12_comes_123 : decode cX12_comes 123 = .ok (.aload_n 0, 1) := by decide +kernel
theorem dX12_comes_124 : decode cX12_comes 124 = .ok (.getfield 37, 3) := by decide +kernel
theorem dX12_comes_127 : decode cX12_comes 127 = .ok (.iconst 1, 1) := by decide +kernel
theorem dX12_comes_128 : decode cX12_comes 128 = .ok (.iaload, 1) := by decide +kernel
theorem dX12_comes_129 : decode cX12_comes 129 = .ok (.aload_n 0, 1) := by decide +kernel
theorem dX12_comes_130 : decode cX12_comes 130 = .ok (.getfield 16, 3) := by decide +kernel
theorem dX12_comes_133 : decode cX12_comes 133 = .ok (.iconst 0, 1) := by decide +kernel
theorem dX12_comes_134 : decode cX12_comes 134 = .ok (.iaload, 1) := by decide +kernel
theorem dX12_comes_135 : decode cX12_comes 135 = .ok (.if_icmp .lt 5, 3) := by decide +kernel
theorem dX12_comes_138 : decode cX12_comes 138 = .ok (.iconst 0, 1) := by decide +kernel
theorem dX12_comes_139 : decode cX12_comes 139 = .ok (.ireturn, 1) := by decide +kernel
theorem dX12_comes_140 : decode cX12_comes 140 = .ok (.aload_n 0, 1) := by decide +kernel
theorem dX12_comes_141 : decode cX12_comes 141 = .ok (.getfield 16, 3) := by decide +kernel
theorem dX12_comes_144 : decode cX12_comes 144 = .ok (.bipush 35, 2) := by decide +kernel
theorem dX12_comes_146 : decode cX12_comes 146 = .ok (.aload_n 0, 1) := by decide +kernel
theorem dX12_comes_147 : decode cX12_comes 147 = .ok (.getfield 37, 3) := by decide +kernel
theorem dX12_comes_150 : decode cX12_comes 150 = .ok (.iconst 0, 1) := by decide +kernel
theorem dX12_comes_151 : decode cX12_comes 151 = .ok (.iaload, 1) := by decide +kernel
theorem dX12_comes_152 : decode cX12_comes 152 = .ok (.iadd, 1) := by decide +kernel
theorem dX12_comes_153 : decode cX12_comes 153 = .ok (.aload_n 0, 1) := by decide +kernel
theorem dX12_comes_154 : decode cX12_comes 154 = .ok (.getfield 37, 3) := by decide +kernel
theorem dX12_comes_157 : decode cX12_comes 157 = .ok (.iconst 1, 1) := by decide +kernel
theorem dX12_comes_158 : decode cX12_comes 158 = .ok (.iaload, 1) := by decide +kernel
theorem dX12_comes_159 : decode cX12_comes 159 = .ok (.iconst 1, 1) := by decide +kernel
theorem dX12_comes_160 : decode cX12_comes 160 = .ok (.iadd, 1) := by decide +kernel
theorem dX12_comes_161 : decode cX12_comes 161 = .ok (.iastore, 1) := by decide +kernel
theorem dX12_comes_162 : decode cX12_comes 162 = .ok (.iconst 1, 1) := by decide +kernel
theorem dX12_comes_163 : decode cX12_comes 163 = .ok (.ireturn, 1) := by decide +kernel
theorem dX12_comes_164 : decode cX12_comes 164 = .ok (.aload_n 0, 1) := by decide +kernel
theorem dX12_comes_165 : decode cX12_comes 165 = .ok (.getfield 16, 3) := by decide +kernel
theorem dX12_comes_168 : decode cX12_comes 168 = .ok (.iconst 1, 1) := by decide +kernel
theorem dX12_comes_169 : decode cX12_comes 169 = .ok (.iaload, 1) := by decide +kernel
theorem dX12_comes_170 : decode cX12_comes 170 = .ok (.istore_n 2, 1) := by decide +kernel
theorem dX12_comes_171 : decode cX12_comes 171 = .ok (.iload_n 2, 1) := by decide +kernel
theorem dX12_comes_172 : decode cX12_comes 172 = .ok (.iconst 4, 1) := by decide +kernel
theorem dX12_comes_173 : decode cX12_comes 173 = .ok (.if_icmp .eq 29, 3) := by decide +kernel
theorem dX12_comes_176 : decode cX12_comes 176 = .ok (.aload_n 0, 1) := by decide +kernel
theorem dX12_comes_177 : decode cX12_comes 177 = .ok (.getfield 37, 3) := by decide +kernel
theorem dX12_comes_180 : decode cX12_comes 180 = .ok (.iconst 0, 1) := by decide +kernel
theorem dX12_comes_181 : decode cX12_comes 181 = .ok (.iaload, 1) := by decide +kernel
theorem dX12_comes_182 : decode cX12_comes 182 = .ok (.bipush 99, 2) := by decide +kernel
theorem dX12_comes_184 : decode cX12_comes 184 = .ok (.if_icmp .gt 18, 3) := by decide +kernel
theorem dX12_comes_187 : decode cX12_comes 187 = .ok (.aload_n 0, 1) := by decide +kernel
theorem dX12_comes_188 : decode cX12_comes 188 = .ok (.getfield 76, 3) := by decide +kernel
theorem dX12_comes_191 : decode cX12_comes 191 = .ok (.aload_n 0, 1) := by decide +kernel
theorem dX12_comes_192 : decode cX12_comes 192 = .ok (.getfield 16, 3) := by decide +kernel
theorem dX12_comes_195 : decode cX12_comes 195 = .ok (.iconst 0, 1) := by decide +kernel
theorem dX12_comes_196 : decode cX12_comes 196 = .ok (.iaload, 1) := by decide +kernel
theorem dX12_comes_197 : decode cX12_comes 197 = .ok (.iconst 1, 1) := by decide +kernel
theorem dX12_comes_198 : decode cX12_comes 198 = .ok (.iadd, 1) := by decide +kernel
theorem dX12_comes_199 : decode cX12_comes 199 = .ok (.if_icmp .eq 5, 3) := by decide +kernel
theorem dX12_comes_202 : decode cX12_comes 202 = .ok (.iconst 0, 1) := by decide +kernel
theorem dX12_comes_203 : decode cX12_comes 203 = .ok (.ireturn, 1) := by decide +kernel
theorem dX12_comes_204 : decode cX12_comes 204 = .ok (.aload_n 0, 1) := by decide +kernel
theorem dX12_comes_205 : decode cX12_comes 205 = .ok (.getfield 16, 3) := by decide +kernel
theorem dX12_comes_208 : decode cX12_comes 208 = .ok (.bipush 15, 2) := by decide +kernel
theorem dX12_comes_210 : decode cX12_comes 210 = .ok (.iload_n 2, 1) := by decide +kernel
theorem dX12_comes_211 : decode cX12_comes 211 = .ok (.iadd, 1) := by decide +kernel
theorem dX12_comes_212 : decode cX12_comes 212 = .ok (.aload_n 0, 1) := by decide +kernel
theorem dX12_comes_213 : decode cX12_comes 213 = .ok (.getfield 37, 3) := by decide +kernel
theorem dX12_comes_216 : decode cX12_comes 216 = .ok (.iconst 0, 1) := by decide +kernel
theorem dX12_comes_217 : decode cX12_comes 217 = .ok (.iaload, 1) := by decide +kernel
theorem dX12_comes_218 : decode cX12_comes 218 = .ok (.iastore, 1) := by decide +kernel
theorem dX12_comes_219 : decode cX12_comes 219 = .ok (.iconst 0, 1) := by decide +kernel
theorem dX12_comes_220 : decode cX12_comes 220 = .ok (.istore_n 3, 1) := by decide +kernel
theorem dX12_comes_221 : decode cX12_comes 221 = .ok (.iload_n 3, 1) := by decide +kernel
theorem dX12_comes_222 : decode cX12_comes 222 = .ok (.aload_n 0, 1) := by decide +kernel
theorem dX12_comes_223 : decode cX12_comes 223 = .ok (.getfield 16, 3) := by decide +kernel
theorem dX12_comes_226 : decode cX12_comes 226 = .ok (.iconst 0, 1) := by decide +kernel
theorem dX12_comes_227 : decode cX12_comes 227 = .ok (.iaload, 1) := by decide +kernel
theorem dX12_comes_228 : decode cX12_comes 228 = .ok (.if_icmp .ge 30, 3) := by decide +kernel
theorem dX12_comes_231 : decode cX12_comes 231 = .ok (.aload_n 0, 1) := by decide +kernel
theorem dX12_comes_232 : decode cX12_comes 232 = .ok (.getfield 16, 3) := by decide +kernel
theorem dX12_comes_235 : decode cX12_comes 235 = .ok (.bipush 19, 2) := by decide +kernel
theorem dX12_comes_237 : decode cX12_comes 237 = .ok (.iconst 4, 1) := by decide +kernel
theorem dX12_comes_238 : decode cX12_comes 238 = .ok (.iload_n 2, 1) := by decide +kernel
theorem dX12_comes_239 : decode cX12_comes 239 = .ok (.imul, 1) := by decide +kernel
theorem dX12_comes_240 : decode cX12_comes 240 = .ok (.iadd, 1) := by decide +kernel
theorem dX12_comes_241 : decode cX12_comes 241 = .ok (.iload_n 3, 1) := by decide +kernel
theorem dX12_comes_242 : decode cX12_comes 242 = .ok (.iadd, 1) := by decide +kernel
theorem dX12_comes_243 : decode cX12_comes 243 = .ok (.aload_n 0, 1) := by decide +kernel
theorem dX12_comes_244 : decode cX12_comes 244 = .ok (.getfield 37, 3) := by decide +kernel
theorem dX12_comes_247 : decode cX12_comes 247 = .ok (.iconst 1, 1) := by decide +kernel
theorem dX12_comes_248 : decode cX12_comes 248 = .ok (.iload_n 3, 1) := by decide +kernel
theorem dX12_comes_249 : decode cX12_comes 249 = .ok (.iadd, 1) := by decide +kernel
theorem dX12_comes_250 : decode cX12_comes 250 = .ok (.iaload, 1) := by decide +kernel
theorem dX12_comes_251 : decode cX12_comes 251 = .ok (.iastore, 1) := by decide +kernel
theorem dX12_comes_252 : decode cX12_comes 252 = .ok (.iinc 3 1, 3) := by decide +kernel
theorem dX12_comes_255 : decode cX12_comes 255 = .ok (.goto (-34), 3) := by decide +kernel
theorem dX12_comes_258 : decode cX12_comes 258 = .ok (.aload_n 0, 1) := by decide +kernel
theorem dX12_comes_259 : decode cX12_comes 259 = .ok (.getfield 16, 3) := by decide +kernel
theorem dX12_comes_262 : decode cX12_comes 262 = .ok (.iconst 1, 1) := by decide +kernel
theorem dX12_comes_263 : decode cX12_comes 263 = .ok (.dup2, 1) := by decide +kernel
theorem dX12_comes_264 : decode cX12_comes 264 = .ok (.iaload, 1) := by decide +kernel
theorem dX12_comes_265 : decode cX12_comes 265 = .ok (.iconst 1, 1) := by decide +kernel
theorem dX12_comes_266 : decode cX12_comes 266 = .ok (.iadd, 1) := by decide +kernel
theorem dX12_comes_267 : decode cX12_comes 267 = .ok (.iastore, 1) := by decide +kernel
theorem dX12_comes_268 : decode cX12_comes 268 = .ok (.iconst 1, 1) := by decide +kernel
theorem dX12_comes_269 : decode cX12_comes 269 = .ok (.ireturn, 1) := by decide +kernel
set_option maxRecDepth 20000 in
theorem ggX12_wrongRow_X12_isShelf : GoodIn wsX12_wrongRow wsX12_isShelf := goodIn_r _ [6, 7, 8, 9, 5, 10] (by decide +kernel) (by decide +kernel)
set_option maxRecDepth 20000 in
theorem gX12_wrongRow_X12_isShelf : GoodIn wsX12_wrongRow (va_wsS RX12 89 yX12_isShelf wsX12_isShelf) := goodIn_app (goodIn_of _ (by decide +kernel)) ggX12_wrongRow_X12_isShelf
theorem dX12_wrongRow_0 : decode cX12_wrongRow 0 = .ok (.iload_n 1, 1) := by decide +kernel
theorem dX12_wrongRow_1 : decode cX12_wrongRow 1 = .ok (.invokestatic 89, 3) := by decide +kernel
theorem dX12_wrongRow_4 : decode cX12_wrongRow 4 = .ok (.ifCond .ne 7, 3) := by decide +kernel
theorem dX12_wrongRow_7 : decode cX12_wrongRow 7 = .ok (.iconst (-1), 1) := by decide +kernel
theorem dX12_wrongRow_8 : decode cX12_wrongRow 8 = .ok (.goto 47, 3) := by decide +kernel
theorem dX12_wrongRow_11 : decode cX12_wrongRow 11 = .ok (.aload_n 0, 1) := by decide +kernel
theorem dX12_wrongRow_12 : decode cX12_wrongRow 12 = .ok (.getfield 19, 3) := by decide +kernel
theorem dX12_wrongRow_15 : decode cX12_wrongRow 15 = .ok (.iload_n 1, 1) := by decide +kernel
theorem dX12_wrongRow_16 : decode cX12_wrongRow 16 = .ok (.iaload, 1) := by decide +kernel
theorem dX12_wrongRow_17 : decode cX12_wrongRow 17 = .ok (.ifCond .ne 8, 3) := by decide +kernel
theorem dX12_wrongRow_20 : decode cX12_wrongRow 20 = .ok (.bipush (-11), 2) := by decide +kernel
theorem dX12_wrongRow_22 : decode cX12_wrongRow 22 = .ok (.goto 33, 3) := by decide +kernel
theorem dX12_wrongRow_25 : decode cX12_wrongRow 25 = .ok (.aload_n 0, 1) := by decide +kernel
theorem dX12_wrongRow_26 : decode cX12_wrongRow 26 = .ok (.getfield 19, 3) := by decide +kernel
theorem dX12_wrongRow_29 : decode cX12_wrongRow 29 = .ok (.iload_n 1, 1) := by decide +kernel
theorem dX12_wrongRow_30 : decode cX12_wrongRow 30 = .ok (.iaload, 1) := by decide +kernel
theorem dX12_wrongRow_31 : decode cX12_wrongRow 31 = .ok (.iconst 2, 1) := by decide +kernel
theorem dX12_wrongRow_32 : decode cX12_wrongRow 32 = .ok (.if_icmp .ne 17, 3) := by decide +kernel
theorem dX12_wrongRow_35 : decode cX12_wrongRow 35 = .ok (.iload_n 2, 1) := by decide +kernel
theorem dX12_wrongRow_36 : decode cX12_wrongRow 36 = .ok (.ifCond .lt 18, 3) := by decide +kernel
theorem dX12_wrongRow_39 : decode cX12_wrongRow 39 = .ok (.aload_n 0, 1) := by decide +kernel
theorem dX12_wrongRow_40 : decode cX12_wrongRow 40 = .ok (.getfield 22, 3) := by decide +kernel
theorem dX12_wrongRow_43 : decode cX12_wrongRow 43 = .ok (.iload_n 1, 1) := by decide +kernel
theorem dX12_wrongRow_44 : decode cX12_wrongRow 44 = .ok (.iaload, 1) := by decide +kernel
theorem dX12_wrongRow_45 : decode cX12_wrongRow 45 = .ok (.iload_n 2, 1) := by decide +kernel
theorem dX12_wrongRow_46 : decode cX12_wrongRow 46 = .ok (.if_icmp .eq 8, 3) := by decide +kernel
theorem dX12_wrongRow_49 : decode cX12_wrongRow 49 = .ok (.bipush (-12), 2) := by decide +kernel
theorem dX12_wrongRow_51 : decode cX12_wrongRow 51 = .ok (.goto 4, 3) := by decide +kernel
theorem dX12_wrongRow_54 : decode cX12_wrongRow 54 = .ok (.iconst 0, 1) := by decide +kernel
theorem dX12_wrongRow_55 : decode cX12_wrongRow 55 = .ok (.ireturn, 1) := by decide +kernel
set_option maxRecDepth 20000 in
theorem ggX12_market_X12_wrongRow : GoodIn wsX12_market wsX12_wrongRow := goodIn_r _ [11, 12, 13, 14, 15, 10, 16, 17, 18, 19, 20, 48, 49, 50, 51, 52, 53, 54, 55, 56, 57, 58, 59, 60, 61, 62, 63, 64, 65, 66, 67, 68, 69, 70, 71] (by decide +kernel) (by decide +kernel)
set_option maxRecDepth 20000 in
theorem gX12_market_X12_wrongRow : GoodIn wsX12_market (wsV RX12 92 RX12 yX12_wrongRow wsX12_wrongRow) := goodIn_app (goodIn_of _ (by decide +kernel)) ggX12_market_X12_wrongRow
set_option maxRecDepth 20000 in
theorem ggX12_market_X12_readsStatement : GoodIn wsX12_market wsX12_readsStatement := goodIn_r _ [24, 25, 4, 26, 27, 28, 10, 29, 3, 30, 1, 31, 32, 33, 34, 35, 36, 37, 38, 18, 19, 20, 39, 40, 41, 42, 48, 49, 50, 51, 52, 53, 54, 55, 56, 57, 58, 59, 60, 61, 62, 63, 64, 65, 66, 67, 68, 69, 70, 71] (by decide +kernel) (by decide +kernel)
set_option maxRecDepth 20000 in
theorem gX12_market_X12_readsStatement : GoodIn wsX12_market (wsV RX12 96 RX12 yX12_readsStatement wsX12_readsStatement) := goodIn_app (goodIn_of _ (by decide +kernel)) ggX12_market_X12_readsStatement
set_option maxRecDepth 20000 in
theorem ggX12_market_X12_sign : GoodIn wsX12_market wsX12_sign := goodIn_r _ [29, 4, 3, 30, 1, 48, 49, 50, 51, 52, 53, 54, 55, 56, 57, 58, 59, 60, 61, 62, 63, 64, 65, 66, 67, 68, 69, 70, 71] (by decide +kernel) (by decide +kernel)
set_option maxRecDepth 20000 in
theorem gX12_market_X12_sign : GoodIn wsX12_market (wsV RX12 65 RX12 yX12_sign wsX12_sign) := goodIn_app (goodIn_of _ (by decide +kernel)) ggX12_market_X12_sign
set_option maxRecDepth 20000 in
theorem ggX12_market_X12_comes : GoodIn wsX12_market wsX12_comes := goodIn_r _ [46, 5, 38, 47, 25, 18, 19, 10, 20, 48, 49, 50, 51, 52, 53, 54, 55, 56, 57, 58, 59, 60, 61, 62, 63, 64, 65, 66, 67, 68, 69, 70, 71] (by decide +kernel) (by decide +kernel)
set_option maxRecDepth 20000 in
theorem gX12_market_X12_comes : GoodIn wsX12_market (wsV RX12 99 RX12 yX12_comes wsX12_comes) := goodIn_app (goodIn_of _ (by decide +kernel)) ggX12_market_X12_comes
theorem dX12_market_0 : decode cX12_market 0 = .ok (.aload_n 0, 1) := by decide +kernel
theorem dX12_market_1 : decode cX12_market 1 = .ok (.iload_n 1, 1) := by decide +kernel
theorem dX12_market_2 : decode cX12_market 2 = .ok (.iconst 0, 1) := by decide +kernel
theorem dX12_market_3 : decode cX12_market 3 = .ok (.invokevirtual 92, 3) := by decide +kernel
theorem dX12_market_6 : decode cX12_market 6 = .ok (.istore_n 2, 1) := by decide +kernel
theorem dX12_market_7 : decode cX12_market 7 = .ok (.iload_n 2, 1) := by decide +kernel
theorem dX12_market_8 : decode cX12_market 8 = .ok (.ifCond .eq 5, 3) := by decide +kernel
theorem dX12_market_11 : decode cX12_market 11 = .ok (.iload_n 2, 1) := by decide +kernel
theorem dX12_market_12 : decode cX12_market 12 = .ok (.ireturn, 1) := by decide +kernel
theorem dX12_market_13 : decode cX12_market 13 = .ok (.aload_n 0, 1) := by decide +kernel
theorem dX12_market_14 : decode cX12_market 14 = .ok (.bipush 120, 2) := by decide +kernel
theorem dX12_market_16 : decode cX12_market 16 = .ok (.iload_n 1, 1) := by decide +kernel
theorem dX12_market_17 : decode cX12_market 17 = .ok (.imul, 1) := by decide +kernel
theorem dX12_market_18 : decode cX12_market 18 = .ok (.putfield 62, 3) := by decide +kernel
theorem dX12_market_21 : decode cX12_market 21 = .ok (.aload_n 0, 1) := by decide +kernel
theorem dX12_market_22 : decode cX12_market 22 = .ok (.aload_n 0, 1) := by decide +kernel
theorem dX12_market_23 : decode cX12_market 23 = .ok (.getfield 25, 3) := by decide +kernel
theorem dX12_market_26 : decode cX12_market 26 = .ok (.iload_n 1, 1) := by decide +kernel
theorem dX12_market_27 : decode cX12_market 27 = .ok (.iaload, 1) := by decide +kernel
theorem dX12_market_28 : decode cX12_market 28 = .ok (.putfield 59, 3) := by decide +kernel
theorem dX12_market_31 : decode cX12_market 31 = .ok (.aload_n 0, 1) := by decide +kernel
theorem dX12_market_32 : decode cX12_market 32 = .ok (.iconst 0, 1) := by decide +kernel
theorem dX12_market_33 : decode cX12_market 33 = .ok (.putfield 56, 3) := by decide +kernel
theorem dX12_market_36 : decode cX12_market 36 = .ok (.aload_n 0, 1) := by decide +kernel
theorem dX12_market_37 : decode cX12_market 37 = .ok (.invokevirtual 96, 3) := by decide +kernel
theorem dX12_market_40 : decode cX12_market 40 = .ok (.ifCond .ne 12, 3) := by decide +kernel
theorem dX12_market_43 : decode cX12_market 43 = .ok (.sipush (-1000), 3) := by decide +kernel
theorem dX12_market_46 : decode cX12_market 46 = .ok (.aload_n 0, 1) := by decide +kernel
theorem dX12_market_47 : decode cX12_market 47 = .ok (.getfield 56, 3) := by decide +kernel
theorem dX12_market_50 : decode cX12_market 50 = .ok (.isub, 1) := by decide +kernel
theorem dX12_market_51 : decode cX12_market 51 = .ok (.ireturn, 1) := by decide +kernel
theorem dX12_market_52 : decode cX12_market 52 = .ok (.aload_n 0, 1) := by decide +kernel
theorem dX12_market_53 : decode cX12_market 53 = .ok (.getfield 56, 3) := by decide +kernel
theorem dX12_market_56 : decode cX12_market 56 = .ok (.aload_n 0, 1) := by decide +kernel
theorem dX12_market_57 : decode cX12_market 57 = .ok (.getfield 59, 3) := by decide +kernel
theorem dX12_market_60 : decode cX12_market 60 = .ok (.if_icmp .lt (-24), 3) := by decide +kernel
theorem dX12_market_63 : decode cX12_market 63 = .ok (.iconst 0, 1) := by decide +kernel
theorem dX12_market_64 : decode cX12_market 64 = .ok (.istore_n 3, 1) := by decide +kernel
theorem dX12_market_65 : decode cX12_market 65 = .ok (.iload_n 3, 1) := by decide +kernel
theorem dX12_market_66 : decode cX12_market 66 = .ok (.bipush 39, 2) := by decide +kernel
theorem dX12_market_68 : decode cX12_market 68 = .ok (.if_icmp .ge 16, 3) := by decide +kernel
theorem dX12_market_71 : decode cX12_market 71 = .ok (.aload_n 0, 1) := by decide +kernel
theorem dX12_market_72 : decode cX12_market 72 = .ok (.getfield 16, 3) := by decide +kernel
theorem dX12_market_75 : decode cX12_market 75 = .ok (.iload_n 3, 1) := by decide +kernel
theorem dX12_market_76 : decode cX12_market 76 = .ok (.iconst 0, 1) := by decide +kernel
theorem dX12_market_77 : decode cX12_market 77 = .ok (.iastore, 1) := by decide +kernel
theorem dX12_market_78 : decode cX12_market 78 = .ok (.iinc 3 1, 3) := by decide +kernel
theorem dX12_market_81 : decode cX12_market 81 = .ok (.goto (-16), 3) := by decide +kernel
theorem dX12_market_84 : decode cX12_market 84 = .ok (.aload_n 0, 1) := by decide +kernel
theorem dX12_market_85 : decode cX12_market 85 = .ok (.iconst 0, 1) := by decide +kernel
theorem dX12_market_86 : decode cX12_market 86 = .ok (.putfield 56, 3) := by decide +kernel
theorem dX12_market_89 : decode cX12_market 89 = .ok (.iconst 0, 1) := by decide +kernel
theorem dX12_market_90 : decode cX12_market 90 = .ok (.istore_n 3, 1) := by decide +kernel
theorem dX12_market_91 : decode cX12_market 91 = .ok (.aload_n 0, 1) := by decide +kernel
theorem dX12_market_92 : decode cX12_market 92 = .ok (.getfield 56, 3) := by decide +kernel
theorem dX12_market_95 : decode cX12_market 95 = .ok (.aload_n 0, 1) := by decide +kernel
theorem dX12_market_96 : decode cX12_market 96 = .ok (.getfield 59, 3) := by decide +kernel
theorem dX12_market_99 : decode cX12_market 99 = .ok (.if_icmp .ge 43, 3) := by decide +kernel
theorem dX12_market_102 : decode cX12_market 102 = .ok (.aload_n 0, 1) := by decide +kernel
theorem dX12_market_103 : decode cX12_market 103 = .ok (.getfield 56, 3) := by decide +kernel
theorem dX12_market_106 : decode cX12_market 106 = .ok (.istore 4, 2) := by decide +kernel
theorem dX12_market_108 : decode cX12_market 108 = .ok (.aload_n 0, 1) := by decide +kernel
theorem dX12_market_109 : decode cX12_market 109 = .ok (.invokevirtual 65, 3) := by decide +kernel
theorem dX12_market_112 : decode cX12_market 112 = .ok (.istore 5, 2) := by decide +kernel
theorem dX12_market_114 : decode cX12_market 114 = .ok (.aload_n 0, 1) := by decide +kernel
theorem dX12_market_115 : decode cX12_market 115 = .ok (.invokevirtual 96, 3) := by decide +kernel
theorem dX12_market_118 : decode cX12_market 118 = .ok (.istore 6, 2) := by decide +kernel
theorem dX12_market_120 : decode cX12_market 120 = .ok (.aload_n 0, 1) := by decide +kernel
theorem dX12_market_121 : decode cX12_market 121 = .ok (.iload 5, 2) := by decide +kernel
theorem dX12_market_123 : decode cX12_market 123 = .ok (.invokevirtual 99, 3) := by decide +kernel
theorem dX12_market_126 : decode cX12_market 126 = .ok (.ifCond .ne 10, 3) := by decide +kernel
theorem dX12_market_129 : decode cX12_market 129 = .ok (.sipush (-2000), 3) := by decide +kernel
theorem dX12_market_132 : decode cX12_market 132 = .ok (.iload 4, 2) := by decide +kernel
theorem dX12_market_134 : decode cX12_market 134 = .ok (.isub, 1) := by decide +kernel
theorem dX12_market_135 : decode cX12_market 135 = .ok (.ireturn, 1) := by decide +kernel
theorem dX12_market_136 : decode cX12_market 136 = .ok (.iinc 3 1, 3) := by decide +kernel
theorem dX12_market_139 : decode cX12_market 139 = .ok (.goto (-48), 3) := by decide +kernel
theorem dX12_market_142 : decode cX12_market 142 = .ok (.iconst 0, 1) := by decide +kernel
theorem dX12_market_143 : decode cX12_market 143 = .ok (.istore 4, 2) := by decide +kernel
theorem dX12_market_145 : decode cX12_market 145 = .ok (.iconst 0, 1) := by decide +kernel
theorem dX12_market_146 : decode cX12_market 146 = .ok (.istore 5, 2) := by decide +kernel
theorem dX12_market_148 : decode cX12_market 148 = .ok (.iload 5, 2) := by decide +kernel
theorem dX12_market_150 : decode cX12_market 150 = .ok (.aload_n 0, 1) := by decide +kernel
theorem dX12_market_151 : decode cX12_market 151 = .ok (.getfield 16, 3) := by decide +kernel
theorem dX12_market_154 : decode cX12_market 154 = .ok (.iconst 0, 1) := by decide +kernel
theorem dX12_market_155 : decode cX12_market 155 = .ok (.iaload, 1) := by decide +kernel
theorem dX12_market_156 : decode cX12_market 156 = .ok (.if_icmp .ge 23, 3) := by decide +kernel
theorem dX12_market_159 : decode cX12_market 159 = .ok (.iload 4, 2) := by decide +kernel
theorem dX12_market_161 : decode cX12_market 161 = .ok (.aload_n 0, 1) := by decide +kernel
theorem dX12_market_162 : decode cX12_market 162 = .ok (.getfield 16, 3) := by decide +kernel
theorem dX12_market_165 : decode cX12_market 165 = .ok (.iconst 3, 1) := by decide +kernel
theorem dX12_market_166 : decode cX12_market 166 = .ok (.iload 5, 2) := by decide +kernel
theorem dX12_market_168 : decode cX12_market 168 = .ok (.iadd, 1) := by decide +kernel
theorem dX12_market_169 : decode cX12_market 169 = .ok (.iaload, 1) := by decide +kernel
theorem dX12_market_170 : decode cX12_market 170 = .ok (.iadd, 1) := by decide +kernel
theorem dX12_market_171 : decode cX12_market 171 = .ok (.istore 4, 2) := by decide +kernel
theorem dX12_market_173 : decode cX12_market 173 = .ok (.iinc 5 1, 3) := by decide +kernel
theorem dX12_market_176 : decode cX12_market 176 = .ok (.goto (-28), 3) := by decide +kernel
theorem dX12_market_179 : decode cX12_market 179 = .ok (.iload 4, 2) := by decide +kernel
theorem dX12_market_181 : decode cX12_market 181 = .ok (.bipush 100, 2) := by decide +kernel
theorem dX12_market_183 : decode cX12_market 183 = .ok (.if_icmp .ne 12, 3) := by decide +kernel
theorem dX12_market_186 : decode cX12_market 186 = .ok (.aload_n 0, 1) := by decide +kernel
theorem dX12_market_187 : decode cX12_market 187 = .ok (.getfield 16, 3) := by decide +kernel
theorem dX12_market_190 : decode cX12_market 190 = .ok (.iconst 1, 1) := by decide +kernel
theorem dX12_market_191 : decode cX12_market 191 = .ok (.iaload, 1) := by decide +kernel
theorem dX12_market_192 : decode cX12_market 192 = .ok (.ifCond .ne 7, 3) := by decide +kernel
theorem dX12_market_195 : decode cX12_market 195 = .ok (.sipush (-3000), 3) := by decide +kernel
theorem dX12_market_198 : decode cX12_market 198 = .ok (.ireturn, 1) := by decide +kernel
theorem dX12_market_199 : decode cX12_market 199 = .ok (.iconst 0, 1) := by decide +kernel
theorem dX12_market_200 : decode cX12_market 200 = .ok (.istore 5, 2) := by decide +kernel
theorem dX12_market_202 : decode cX12_market 202 = .ok (.iload 5, 2) := by decide +kernel
theorem dX12_market_204 : decode cX12_market 204 = .ok (.bipush 39, 2) := by decide +kernel
theorem dX12_market_206 : decode cX12_market 206 = .ok (.if_icmp .ge 23, 3) := by decide +kernel
theorem dX12_market_209 : decode cX12_market 209 = .ok (.aload_n 0, 1) := by decide +kernel
theorem dX12_market_210 : decode cX12_market 210 = .ok (.getfield 9, 3) := by decide +kernel
theorem dX12_market_213 : decode cX12_market 213 = .ok (.iload 5, 2) := by decide +kernel
theorem dX12_market_215 : decode cX12_market 215 = .ok (.aload_n 0, 1) := by decide +kernel
theorem dX12_market_216 : decode cX12_market 216 = .ok (.getfield 16, 3) := by decide +kernel
theorem dX12_market_219 : decode cX12_market 219 = .ok (.iload 5, 2) := by decide +kernel
theorem dX12_market_221 : decode cX12_market 221 = .ok (.iaload, 1) := by decide +kernel
theorem dX12_market_222 : decode cX12_market 222 = .ok (.iastore, 1) := by decide +kernel
theorem dX12_market_223 : decode cX12_market 223 = .ok (.iinc 5 1, 3) := by decide +kernel
theorem dX12_market_226 : decode cX12_market 226 = .ok (.goto (-24), 3) := by decide +kernel
theorem dX12_market_229 : decode cX12_market 229 = .ok (.iload_n 3, 1) := by decide +kernel
theorem dX12_market_230 : decode cX12_market 230 = .ok (.ireturn, 1) := by decide +kernel
set_option maxRecDepth 20000 in
theorem ggX12_sort_X12_isOpen : GoodIn wsX12_sort wsX12_isOpen := goodIn_r _ [7, 2, 15, 16, 17, 18, 19, 20, 21, 22, 23, 24, 25, 26, 27, 28, 29, 30, 31, 32, 33, 34, 35, 36, 37, 38] (by decide +kernel) (by decide +kernel)
set_option maxRecDepth 20000 in
theorem gX12_sort_X12_isOpen : GoodIn wsX12_sort (wsV RX12 102 RX12 yX12_isOpen wsX12_isOpen) := goodIn_app (goodIn_of _ (by decide +kernel)) ggX12_sort_X12_isOpen
set_option maxRecDepth 20000 in
theorem ggX12_sort_X12_isSort : GoodIn wsX12_sort wsX12_isSort := goodIn_r _ [11, 2, 12, 13, 6, 14, 15, 16, 17, 18, 19, 20, 21, 22, 23, 24, 25, 26, 27, 28, 29, 30, 31, 32, 33, 34, 35, 36, 37, 38] (by decide +kernel) (by decide +kernel)
set_option maxRecDepth 20000 in
theorem gX12_sort_X12_isSort : GoodIn wsX12_sort (wsV RX12 105 RX12 yX12_isSort wsX12_isSort) := goodIn_app (goodIn_of _ (by decide +kernel)) ggX12_sort_X12_isSort
set_option maxRecDepth 20000 in
theorem ggX12_sort_X12_isIn : GoodIn wsX12_sort wsX12_isIn := goodIn_r _ [14] (by decide +kernel) (by decide +kernel)
set_option maxRecDepth 20000 in
theorem gX12_sort_X12_isIn : GoodIn wsX12_sort (va_wsS RX12 50 yX12_isIn wsX12_isIn) := goodIn_app (goodIn_of _ (by decide +kernel)) ggX12_sort_X12_isIn
theorem dX12_sort_0 : decode cX12_sort 0 = .ok (.aload_n 0, 1) := by decide +kernel
theorem dX12_sort_1 : decode cX12_sort 1 = .ok (.invokevirtual 102, 3) := by decide +kernel
theorem dX12_sort_4 : decode cX12_sort 4 = .ok (.ifCond .ne 8, 3) := by decide +kernel
theorem dX12_sort_7 : decode cX12_sort 7 = .ok (.bipush (-3), 2) := by decide +kernel
theorem dX12_sort_9 : decode cX12_sort 9 = .ok (.goto 39, 3) := by decide +kernel
theorem dX12_sort_12 : decode cX12_sort 12 = .ok (.aload_n 0, 1) := by decide +kernel
theorem dX12_sort_13 : decode cX12_sort 13 = .ok (.iload_n 1, 1) := by decide +kernel
theorem dX12_sort_14 : decode cX12_sort 14 = .ok (.invokevirtual 105, 3) := by decide +kernel
theorem dX12_sort_17 : decode cX12_sort 17 = .ok (.ifCond .eq 30, 3) := by decide +kernel
theorem dX12_sort_20 : decode cX12_sort 20 = .ok (.iload_n 2, 1) := by decide +kernel
theorem dX12_sort_21 : decode cX12_sort 21 = .ok (.i2l, 1) := by decide +kernel
theorem dX12_sort_22 : decode cX12_sort 22 = .ok (.lconst 0, 1) := by decide +kernel
theorem dX12_sort_23 : decode cX12_sort 23 = .ok (.ldc2_w 108, 3) := by decide +kernel
theorem dX12_sort_26 : decode cX12_sort 26 = .ok (.invokestatic 50, 3) := by decide +kernel
theorem dX12_sort_29 : decode cX12_sort 29 = .ok (.ifCond .eq 18, 3) := by decide +kernel
theorem dX12_sort_32 : decode cX12_sort 32 = .ok (.aload_n 0, 1) := by decide +kernel
theorem dX12_sort_33 : decode cX12_sort 33 = .ok (.getfield 9, 3) := by decide +kernel
theorem dX12_sort_36 : decode cX12_sort 36 = .ok (.iconst 3, 1) := by decide +kernel
theorem dX12_sort_37 : decode cX12_sort 37 = .ok (.iconst 4, 1) := by decide +kernel
theorem dX12_sort_38 : decode cX12_sort 38 = .ok (.iload_n 2, 1) := by decide +kernel
theorem dX12_sort_39 : decode cX12_sort 39 = .ok (.imul, 1) := by decide +kernel
theorem dX12_sort_40 : decode cX12_sort 40 = .ok (.iadd, 1) := by decide +kernel
theorem dX12_sort_41 : decode cX12_sort 41 = .ok (.iload_n 1, 1) := by decide +kernel
theorem dX12_sort_42 : decode cX12_sort 42 = .ok (.iadd, 1) := by decide +kernel
theorem dX12_sort_43 : decode cX12_sort 43 = .ok (.iaload, 1) := by decide +kernel
theorem dX12_sort_44 : decode cX12_sort 44 = .ok (.goto 4, 3) := by decide +kernel
theorem dX12_sort_47 : decode cX12_sort 47 = .ok (.iconst (-1), 1) := by decide +kernel
theorem dX12_sort_48 : decode cX12_sort 48 = .ok (.ireturn, 1) := by decide +kernel
set_option maxRecDepth 20000 in
theorem ggX12_mark_X12_isOpen : GoodIn wsX12_mark wsX12_isOpen := goodIn_r _ [6, 1, 14, 15, 16, 17, 18, 19, 20, 21, 22, 23, 24, 25, 26, 27, 28, 29, 30, 31, 32, 33, 34, 35, 36, 37] (by decide +kernel) (by decide +kernel)
set_option maxRecDepth 20000 in
theorem gX12_mark_X12_isOpen : GoodIn wsX12_mark (wsV RX12 102 RX12 yX12_isOpen wsX12_isOpen) := goodIn_app (goodIn_of _ (by decide +kernel)) ggX12_mark_X12_isOpen
set_option maxRecDepth 20000 in
theorem ggX12_mark_X12_isMark : GoodIn wsX12_mark wsX12_isMark := goodIn_r _ [10, 1, 11, 12, 5, 13, 14, 15, 16, 17, 18, 19, 20, 21, 22, 23, 24, 25, 26, 27, 28, 29, 30, 31, 32, 33, 34, 35, 36, 37] (by decide +kernel) (by decide +kernel)
set_option maxRecDepth 20000 in
theorem gX12_mark_X12_isMark : GoodIn wsX12_mark (wsV RX12 110 RX12 yX12_isMark wsX12_isMark) := goodIn_app (goodIn_of _ (by decide +kernel)) ggX12_mark_X12_isMark
theorem dX12_mark_0 : decode cX12_mark 0 = .ok (.aload_n 0, 1) := by decide +kernel
theorem dX12_mark_1 : decode cX12_mark 1 = .ok (.invokevirtual 102, 3) := by decide +kernel
theorem dX12_mark_4 : decode cX12_mark 4 = .ok (.ifCond .ne 6, 3) := by decide +kernel
theorem dX12_mark_7 : decode cX12_mark 7 = .ok (.bipush (-3), 2) := by decide +kernel
theorem dX12_mark_9 : decode cX12_mark 9 = .ok (.ireturn, 1) := by decide +kernel
theorem dX12_mark_10 : decode cX12_mark 10 = .ok (.aload_n 0, 1) := by decide +kernel
theorem dX12_mark_11 : decode cX12_mark 11 = .ok (.iload_n 1, 1) := by decide +kernel
theorem dX12_mark_12 : decode cX12_mark 12 = .ok (.invokevirtual 110, 3) := by decide +kernel
theorem dX12_mark_15 : decode cX12_mark 15 = .ok (.ifCond .eq 19, 3) := by decide +kernel
theorem dX12_mark_18 : decode cX12_mark 18 = .ok (.iload_n 2, 1) := by decide +kernel
theorem dX12_mark_19 : decode cX12_mark 19 = .ok (.bipush (-2), 2) := by decide +kernel
theorem dX12_mark_21 : decode cX12_mark 21 = .ok (.if_icmp .lt 13, 3) := by decide +kernel
theorem dX12_mark_24 : decode cX12_mark 24 = .ok (.iload_n 2, 1) := by decide +kernel
theorem dX12_mark_25 : decode cX12_mark 25 = .ok (.aload_n 0, 1) := by decide +kernel
theorem dX12_mark_26 : decode cX12_mark 26 = .ok (.getfield 9, 3) := by decide +kernel
theorem dX12_mark_29 : decode cX12_mark 29 = .ok (.iconst 0, 1) := by decide +kernel
theorem dX12_mark_30 : decode cX12_mark 30 = .ok (.iaload, 1) := by decide +kernel
theorem dX12_mark_31 : decode cX12_mark 31 = .ok (.if_icmp .lt 5, 3) := by decide +kernel
theorem dX12_mark_34 : decode cX12_mark 34 = .ok (.iconst (-1), 1) := by decide +kernel
theorem dX12_mark_35 : decode cX12_mark 35 = .ok (.ireturn, 1) := by decide +kernel
theorem dX12_mark_36 : decode cX12_mark 36 = .ok (.iload_n 2, 1) := by decide +kernel
theorem dX12_mark_37 : decode cX12_mark 37 = .ok (.bipush (-2), 2) := by decide +kernel
theorem dX12_mark_39 : decode cX12_mark 39 = .ok (.if_icmp .ne 34, 3) := by decide +kernel
theorem dX12_mark_42 : decode cX12_mark 42 = .ok (.aload_n 0, 1) := by decide +kernel
theorem dX12_mark_43 : decode cX12_mark 43 = .ok (.getfield 9, 3) := by decide +kernel
theorem dX12_mark_46 : decode cX12_mark 46 = .ok (.bipush 35, 2) := by decide +kernel
theorem dX12_mark_48 : decode cX12_mark 48 = .ok (.iload_n 1, 1) := by decide +kernel
theorem dX12_mark_49 : decode cX12_mark 49 = .ok (.iadd, 1) := by decide +kernel
theorem dX12_mark_50 : decode cX12_mark 50 = .ok (.iaload, 1) := by decide +kernel
theorem dX12_mark_51 : decode cX12_mark 51 = .ok (.ifCond .ne 8, 3) := by decide +kernel
theorem dX12_mark_54 : decode cX12_mark 54 = .ok (.bipush (-4), 2) := by decide +kernel
theorem dX12_mark_56 : decode cX12_mark 56 = .ok (.goto 47, 3) := by decide +kernel
theorem dX12_mark_59 : decode cX12_mark 59 = .ok (.aload_n 0, 1) := by decide +kernel
theorem dX12_mark_60 : decode cX12_mark 60 = .ok (.getfield 9, 3) := by decide +kernel
theorem dX12_mark_63 : decode cX12_mark 63 = .ok (.bipush 35, 2) := by decide +kernel
theorem dX12_mark_65 : decode cX12_mark 65 = .ok (.iload_n 1, 1) := by decide +kernel
theorem dX12_mark_66 : decode cX12_mark 66 = .ok (.iadd, 1) := by decide +kernel
theorem dX12_mark_67 : decode cX12_mark 67 = .ok (.iaload, 1) := by decide +kernel
theorem dX12_mark_68 : decode cX12_mark 68 = .ok (.iconst 1, 1) := by decide +kernel
theorem dX12_mark_69 : decode cX12_mark 69 = .ok (.isub, 1) := by decide +kernel
theorem dX12_mark_70 : decode cX12_mark 70 = .ok (.goto 33, 3) := by decide +kernel
theorem dX12_mark_73 : decode cX12_mark 73 = .ok (.iload_n 2, 1) := by decide +kernel
theorem dX12_mark_74 : decode cX12_mark 74 = .ok (.iconst (-1), 1) := by decide +kernel
theorem dX12_mark_75 : decode cX12_mark 75 = .ok (.if_icmp .ne 15, 3) := by decide +kernel
theorem dX12_mark_78 : decode cX12_mark 78 = .ok (.aload_n 0, 1) := by decide +kernel
theorem dX12_mark_79 : decode cX12_mark 79 = .ok (.getfield 9, 3) := by decide +kernel
theorem dX12_mark_82 : decode cX12_mark 82 = .ok (.bipush 15, 2) := by decide +kernel
theorem dX12_mark_84 : decode cX12_mark 84 = .ok (.iload_n 1, 1) := by decide +kernel
theorem dX12_mark_85 : decode cX12_mark 85 = .ok (.iadd, 1) := by decide +kernel
theorem dX12_mark_86 : decode cX12_mark 86 = .ok (.iaload, 1) := by decide +kernel
theorem dX12_mark_87 : decode cX12_mark 87 = .ok (.goto 16, 3) := by decide +kernel
theorem dX12_mark_90 : decode cX12_mark 90 = .ok (.aload_n 0, 1) := by decide +kernel
theorem dX12_mark_91 : decode cX12_mark 91 = .ok (.getfield 9, 3) := by decide +kernel
theorem dX12_mark_94 : decode cX12_mark 94 = .ok (.bipush 19, 2) := by decide +kernel
theorem dX12_mark_96 : decode cX12_mark 96 = .ok (.iconst 4, 1) := by decide +kernel
theorem dX12_mark_97 : decode cX12_mark 97 = .ok (.iload_n 1, 1) := by decide +kernel
theorem dX12_mark_98 : decode cX12_mark 98 = .ok (.imul, 1) := by decide +kernel
theorem dX12_mark_99 : decode cX12_mark 99 = .ok (.iadd, 1) := by decide +kernel
theorem dX12_mark_100 : decode cX12_mark 100 = .ok (.iload_n 2, 1) := by decide +kernel
theorem dX12_mark_101 : decode cX12_mark 101 = .ok (.iadd, 1) := by decide +kernel
theorem dX12_mark_102 : decode cX12_mark 102 = .ok (.iaload, 1) := by decide +kernel
theorem dX12_mark_103 : decode cX12_mark 103 = .ok (.ireturn, 1) := by decide +kernel
set_option maxRecDepth 20000 in
theorem ggX12_change_X12_isOpen : GoodIn wsX12_change wsX12_isOpen := goodIn_r _ [6, 7, 19, 20, 21, 22, 23, 24, 25, 26, 27, 28, 29, 30, 31, 32, 33, 34, 35, 36, 37, 38, 39, 40, 41, 42] (by decide +kernel) (by decide +kernel)
set_option maxRecDepth 20000 in
theorem gX12_change_X12_isOpen : GoodIn wsX12_change (wsV RX12 102 RX12 yX12_isOpen wsX12_isOpen) := goodIn_app (goodIn_of _ (by decide +kernel)) ggX12_change_X12_isOpen
set_option maxRecDepth 20000 in
theorem ggX12_change_X12_isSort : GoodIn wsX12_change wsX12_isSort := goodIn_r _ [11, 7, 12, 13, 5, 14, 19, 20, 21, 22, 23, 24, 25, 26, 27, 28, 29, 30, 31, 32, 33, 34, 35, 36, 37, 38, 39, 40, 41, 42] (by decide +kernel) (by decide +kernel)
set_option maxRecDepth 20000 in
theorem gX12_change_X12_isSort : GoodIn wsX12_change (wsV RX12 105 RX12 yX12_isSort wsX12_isSort) := goodIn_app (goodIn_of _ (by decide +kernel)) ggX12_change_X12_isSort
set_option maxRecDepth 20000 in
theorem ggX12_change_X12_isIn : GoodIn wsX12_change wsX12_isIn := goodIn_r _ [14] (by decide +kernel) (by decide +kernel)
set_option maxRecDepth 20000 in
theorem gX12_change_X12_isIn : GoodIn wsX12_change (va_wsS RX12 50 yX12_isIn wsX12_isIn) := goodIn_app (goodIn_of _ (by decide +kernel)) ggX12_change_X12_isIn
set_option maxRecDepth 20000 in
theorem ggX12_change_X12_becomes : GoodIn wsX12_change wsX12_becomes := goodIn_r _ [18, 7, 19, 20, 21, 22, 23, 24, 25, 26, 27, 28, 29, 30, 31, 32, 33, 34, 35, 36, 37, 38, 39, 40, 41, 42] (by decide +kernel) (by decide +kernel)
set_option maxRecDepth 20000 in
theorem gX12_change_X12_becomes : GoodIn wsX12_change (wsV RX12 115 RX12 yX12_becomes wsX12_becomes) := goodIn_app (goodIn_of _ (by decide +kernel)) ggX12_change_X12_becomes
theorem dX12_change_0 : decode cX12_change 0 = .ok (.aload_n 0, 1) := by decide +kernel
theorem dX12_change_1 : decode cX12_change 1 = .ok (.invokevirtual 102, 3) := by decide +kernel
theorem dX12_change_4 : decode cX12_change 4 = .ok (.ifCond .ne 8, 3) := by decide +kernel
theorem dX12_change_7 : decode cX12_change 7 = .ok (.bipush (-3), 2) := by decide +kernel
theorem dX12_change_9 : decode cX12_change 9 = .ok (.goto 55, 3) := by decide +kernel
theorem dX12_change_12 : decode cX12_change 12 = .ok (.aload_n 0, 1) := by decide +kernel
theorem dX12_change_13 : decode cX12_change 13 = .ok (.iload_n 1, 1) := by decide +kernel
theorem dX12_change_14 : decode cX12_change 14 = .ok (.invokevirtual 105, 3) := by decide +kernel
theorem dX12_change_17 : decode cX12_change 17 = .ok (.ifCond .eq 46, 3) := by decide +kernel
theorem dX12_change_20 : decode cX12_change 20 = .ok (.iload_n 2, 1) := by decide +kernel
theorem dX12_change_21 : decode cX12_change 21 = .ok (.i2l, 1) := by decide +kernel
theorem dX12_change_22 : decode cX12_change 22 = .ok (.lconst 0, 1) := by decide +kernel
theorem dX12_change_23 : decode cX12_change 23 = .ok (.lconst 1, 1) := by decide +kernel
theorem dX12_change_24 : decode cX12_change 24 = .ok (.invokestatic 50, 3) := by decide +kernel
theorem dX12_change_27 : decode cX12_change 27 = .ok (.ifCond .eq 36, 3) := by decide +kernel
theorem dX12_change_30 : decode cX12_change 30 = .ok (.iload_n 3, 1) := by decide +kernel
theorem dX12_change_31 : decode cX12_change 31 = .ok (.i2l, 1) := by decide +kernel
theorem dX12_change_32 : decode cX12_change 32 = .ok (.lconst 0, 1) := by decide +kernel
theorem dX12_change_33 : decode cX12_change 33 = .ok (.ldc2_w 113, 3) := by decide +kernel
theorem dX12_change_36 : decode cX12_change 36 = .ok (.invokestatic 50, 3) := by decide +kernel
theorem dX12_change_39 : decode cX12_change 39 = .ok (.ifCond .eq 24, 3) := by decide +kernel
theorem dX12_change_42 : decode cX12_change 42 = .ok (.aload_n 0, 1) := by decide +kernel
theorem dX12_change_43 : decode cX12_change 43 = .ok (.iload_n 2, 1) := by decide +kernel
theorem dX12_change_44 : decode cX12_change 44 = .ok (.ifCond .ne 8, 3) := by decide +kernel
theorem dX12_change_47 : decode cX12_change 47 = .ok (.bipush 7, 2) := by decide +kernel
theorem dX12_change_49 : decode cX12_change 49 = .ok (.goto 5, 3) := by decide +kernel
theorem dX12_change_52 : decode cX12_change 52 = .ok (.bipush 11, 2) := by decide +kernel
theorem dX12_change_54 : decode cX12_change 54 = .ok (.iload_n 1, 1) := by decide +kernel
theorem dX12_change_55 : decode cX12_change 55 = .ok (.iadd, 1) := by decide +kernel
theorem dX12_change_56 : decode cX12_change 56 = .ok (.iload_n 3, 1) := by decide +kernel
theorem dX12_change_57 : decode cX12_change 57 = .ok (.invokevirtual 115, 3) := by decide +kernel
theorem dX12_change_60 : decode cX12_change 60 = .ok (.goto 4, 3) := by decide +kernel
theorem dX12_change_63 : decode cX12_change 63 = .ok (.iconst (-1), 1) := by decide +kernel
theorem dX12_change_64 : decode cX12_change 64 = .ok (.ireturn, 1) := by decide +kernel
set_option maxRecDepth 20000 in
theorem ggX12_cost_X12_isOpen : GoodIn wsX12_cost wsX12_isOpen := goodIn_r _ [8, 1, 20, 21, 22, 23, 24, 25, 26, 27, 28, 29, 30, 31, 32, 33, 34, 35, 36, 37, 38, 39, 40, 41, 42, 43] (by decide +kernel) (by decide +kernel)
set_option maxRecDepth 20000 in
theorem gX12_cost_X12_isOpen : GoodIn wsX12_cost (wsV RX12 102 RX12 yX12_isOpen wsX12_isOpen) := goodIn_app (goodIn_of _ (by decide +kernel)) ggX12_cost_X12_isOpen
set_option maxRecDepth 20000 in
theorem ggX12_cost_X12_isMark : GoodIn wsX12_cost wsX12_isMark := goodIn_r _ [12, 1, 13, 14, 7, 15, 20, 21, 22, 23, 24, 25, 26, 27, 28, 29, 30, 31, 32, 33, 34, 35, 36, 37, 38, 39, 40, 41, 42, 43] (by decide +kernel) (by decide +kernel)
set_option maxRecDepth 20000 in
theorem gX12_cost_X12_isMark : GoodIn wsX12_cost (wsV RX12 110 RX12 yX12_isMark wsX12_isMark) := goodIn_app (goodIn_of _ (by decide +kernel)) ggX12_cost_X12_isMark
set_option maxRecDepth 20000 in
theorem ggX12_cost_X12_isIn : GoodIn wsX12_cost wsX12_isIn := goodIn_r _ [15] (by decide +kernel) (by decide +kernel)
set_option maxRecDepth 20000 in
theorem gX12_cost_X12_isIn : GoodIn wsX12_cost (va_wsS RX12 50 yX12_isIn wsX12_isIn) := goodIn_app (goodIn_of _ (by decide +kernel)) ggX12_cost_X12_isIn
set_option maxRecDepth 20000 in
theorem ggX12_cost_X12_becomes : GoodIn wsX12_cost wsX12_becomes := goodIn_r _ [19, 1, 20, 21, 22, 23, 24, 25, 26, 27, 28, 29, 30, 31, 32, 33, 34, 35, 36, 37, 38, 39, 40, 41, 42, 43] (by decide +kernel) (by decide +kernel)
set_option maxRecDepth 20000 in
theorem gX12_cost_X12_becomes : GoodIn wsX12_cost (wsV RX12 115 RX12 yX12_becomes wsX12_becomes) := goodIn_app (goodIn_of _ (by decide +kernel)) ggX12_cost_X12_becomes
theorem dX12_cost_0 : decode cX12_cost 0 = .ok (.aload_n 0, 1) := by decide +kernel
theorem dX12_cost_1 : decode cX12_cost 1 = .ok (.invokevirtual 102, 3) := by decide +kernel
theorem dX12_cost_4 : decode cX12_cost 4 = .ok (.ifCond .ne 6, 3) := by decide +kernel
theorem dX12_cost_7 : decode cX12_cost 7 = .ok (.bipush (-3), 2) := by decide +kernel
theorem dX12_cost_9 : decode cX12_cost 9 = .ok (.ireturn, 1) := by decide +kernel
theorem dX12_cost_10 : decode cX12_cost 10 = .ok (.aload_n 0, 1) := by decide +kernel
theorem dX12_cost_11 : decode cX12_cost 11 = .ok (.iload_n 1, 1) := by decide +kernel
theorem dX12_cost_12 : decode cX12_cost 12 = .ok (.invokevirtual 110, 3) := by decide +kernel
theorem dX12_cost_15 : decode cX12_cost 15 = .ok (.ifCond .eq 40, 3) := by decide +kernel
theorem dX12_cost_18 : decode cX12_cost 18 = .ok (.iload_n 2, 1) := by decide +kernel
theorem dX12_cost_19 : decode cX12_cost 19 = .ok (.iconst (-1), 1) := by decide +kernel
theorem dX12_cost_20 : decode cX12_cost 20 = .ok (.if_icmp .lt 35, 3) := by decide +kernel
theorem dX12_cost_23 : decode cX12_cost 23 = .ok (.iload_n 2, 1) := by decide +kernel
theorem dX12_cost_24 : decode cX12_cost 24 = .ok (.aload_n 0, 1) := by decide +kernel
theorem dX12_cost_25 : decode cX12_cost 25 = .ok (.getfield 9, 3) := by decide +kernel
theorem dX12_cost_28 : decode cX12_cost 28 = .ok (.iconst 0, 1) := by decide +kernel
theorem dX12_cost_29 : decode cX12_cost 29 = .ok (.iaload, 1) := by decide +kernel
theorem dX12_cost_30 : decode cX12_cost 30 = .ok (.if_icmp .ge 25, 3) := by decide +kernel
theorem dX12_cost_33 : decode cX12_cost 33 = .ok (.iload_n 3, 1) := by decide +kernel
theorem dX12_cost_34 : decode cX12_cost 34 = .ok (.i2l, 1) := by decide +kernel
theorem dX12_cost_35 : decode cX12_cost 35 = .ok (.lconst 0, 1) := by decide +kernel
theorem dX12_cost_36 : decode cX12_cost 36 = .ok (.iload_n 2, 1) := by decide +kernel
theorem dX12_cost_37 : decode cX12_cost 37 = .ok (.ifCond .ge 9, 3) := by decide +kernel
theorem dX12_cost_40 : decode cX12_cost 40 = .ok (.ldc2_w 118, 3) := by decide +kernel
theorem dX12_cost_43 : decode cX12_cost 43 = .ok (.goto 6, 3) := by decide +kernel
theorem dX12_cost_46 : decode cX12_cost 46 = .ok (.ldc2_w 113, 3) := by decide +kernel
theorem dX12_cost_49 : decode cX12_cost 49 = .ok (.invokestatic 50, 3) := by decide +kernel
theorem dX12_cost_52 : decode cX12_cost 52 = .ok (.ifCond .ne 5, 3) := by decide +kernel
theorem dX12_cost_55 : decode cX12_cost 55 = .ok (.iconst (-1), 1) := by decide +kernel
theorem dX12_cost_56 : decode cX12_cost 56 = .ok (.ireturn, 1) := by decide +kernel
theorem dX12_cost_57 : decode cX12_cost 57 = .ok (.aload_n 0, 1) := by decide +kernel
theorem dX12_cost_58 : decode cX12_cost 58 = .ok (.iload_n 2, 1) := by decide +kernel
theorem dX12_cost_59 : decode cX12_cost 59 = .ok (.ifCond .ge 10, 3) := by decide +kernel
theorem dX12_cost_62 : decode cX12_cost 62 = .ok (.bipush 15, 2) := by decide +kernel
theorem dX12_cost_64 : decode cX12_cost 64 = .ok (.iload_n 1, 1) := by decide +kernel
theorem dX12_cost_65 : decode cX12_cost 65 = .ok (.iadd, 1) := by decide +kernel
theorem dX12_cost_66 : decode cX12_cost 66 = .ok (.goto 11, 3) := by decide +kernel
theorem dX12_cost_69 : decode cX12_cost 69 = .ok (.bipush 19, 2) := by decide +kernel
theorem dX12_cost_71 : decode cX12_cost 71 = .ok (.iconst 4, 1) := by decide +kernel
theorem dX12_cost_72 : decode cX12_cost 72 = .ok (.iload_n 1, 1) := by decide +kernel
theorem dX12_cost_73 : decode cX12_cost 73 = .ok (.imul, 1) := by decide +kernel
theorem dX12_cost_74 : decode cX12_cost 74 = .ok (.iadd, 1) := by decide +kernel
theorem dX12_cost_75 : decode cX12_cost 75 = .ok (.iload_n 2, 1) := by decide +kernel
theorem dX12_cost_76 : decode cX12_cost 76 = .ok (.iadd, 1) := by decide +kernel
theorem dX12_cost_77 : decode cX12_cost 77 = .ok (.iload_n 3, 1) := by decide +kernel
theorem dX12_cost_78 : decode cX12_cost 78 = .ok (.invokevirtual 115, 3) := by decide +kernel
theorem dX12_cost_81 : decode cX12_cost 81 = .ok (.ireturn, 1) := by decide +kernel
set_option maxRecDepth 20000 in
theorem ggX12_think_X12_isOpen : GoodIn wsX12_think wsX12_isOpen := goodIn_r _ [6, 1, 18, 19, 20, 21, 22, 23, 24, 25, 26, 27, 28, 29, 30, 31, 32, 33, 34, 35, 36, 37, 38, 39, 40, 41] (by decide +kernel) (by decide +kernel)
set_option maxRecDepth 20000 in
theorem gX12_think_X12_isOpen : GoodIn wsX12_think (wsV RX12 102 RX12 yX12_isOpen wsX12_isOpen) := goodIn_app (goodIn_of _ (by decide +kernel)) ggX12_think_X12_isOpen
set_option maxRecDepth 20000 in
theorem ggX12_think_X12_isMark : GoodIn wsX12_think wsX12_isMark := goodIn_r _ [10, 1, 11, 12, 5, 13, 18, 19, 20, 21, 22, 23, 24, 25, 26, 27, 28, 29, 30, 31, 32, 33, 34, 35, 36, 37, 38, 39, 40, 41] (by decide +kernel) (by decide +kernel)
set_option maxRecDepth 20000 in
theorem gX12_think_X12_isMark : GoodIn wsX12_think (wsV RX12 110 RX12 yX12_isMark wsX12_isMark) := goodIn_app (goodIn_of _ (by decide +kernel)) ggX12_think_X12_isMark
set_option maxRecDepth 20000 in
theorem ggX12_think_X12_becomes : GoodIn wsX12_think wsX12_becomes := goodIn_r _ [17, 1, 18, 19, 20, 21, 22, 23, 24, 25, 26, 27, 28, 29, 30, 31, 32, 33, 34, 35, 36, 37, 38, 39, 40, 41] (by decide +kernel) (by decide +kernel)
set_option maxRecDepth 20000 in
theorem gX12_think_X12_becomes : GoodIn wsX12_think (wsV RX12 115 RX12 yX12_becomes wsX12_becomes) := goodIn_app (goodIn_of _ (by decide +kernel)) ggX12_think_X12_becomes
theorem dX12_think_0 : decode cX12_think 0 = .ok (.aload_n 0, 1) := by decide +kernel
theorem dX12_think_1 : decode cX12_think 1 = .ok (.invokevirtual 102, 3) := by decide +kernel
theorem dX12_think_4 : decode cX12_think 4 = .ok (.ifCond .ne 6, 3) := by decide +kernel
theorem dX12_think_7 : decode cX12_think 7 = .ok (.bipush (-3), 2) := by decide +kernel
theorem dX12_think_9 : decode cX12_think 9 = .ok (.ireturn, 1) := by decide +kernel
theorem dX12_think_10 : decode cX12_think 10 = .ok (.aload_n 0, 1) := by decide +kernel
theorem dX12_think_11 : decode cX12_think 11 = .ok (.iload_n 1, 1) := by decide +kernel
theorem dX12_think_12 : decode cX12_think 12 = .ok (.invokevirtual 110, 3) := by decide +kernel
theorem dX12_think_15 : decode cX12_think 15 = .ok (.ifCond .eq 18, 3) := by decide +kernel
theorem dX12_think_18 : decode cX12_think 18 = .ok (.iload_n 2, 1) := by decide +kernel
theorem dX12_think_19 : decode cX12_think 19 = .ok (.iconst (-1), 1) := by decide +kernel
theorem dX12_think_20 : decode cX12_think 20 = .ok (.if_icmp .lt 13, 3) := by decide +kernel
theorem dX12_think_23 : decode cX12_think 23 = .ok (.iload_n 2, 1) := by decide +kernel
theorem dX12_think_24 : decode cX12_think 24 = .ok (.aload_n 0, 1) := by decide +kernel
theorem dX12_think_25 : decode cX12_think 25 = .ok (.getfield 9, 3) := by decide +kernel
theorem dX12_think_28 : decode cX12_think 28 = .ok (.iconst 0, 1) := by decide +kernel
theorem dX12_think_29 : decode cX12_think 29 = .ok (.iaload, 1) := by decide +kernel
theorem dX12_think_30 : decode cX12_think 30 = .ok (.if_icmp .lt 5, 3) := by decide +kernel
theorem dX12_think_33 : decode cX12_think 33 = .ok (.iconst (-1), 1) := by decide +kernel
theorem dX12_think_34 : decode cX12_think 34 = .ok (.ireturn, 1) := by decide +kernel
theorem dX12_think_35 : decode cX12_think 35 = .ok (.aload_n 0, 1) := by decide +kernel
theorem dX12_think_36 : decode cX12_think 36 = .ok (.bipush 35, 2) := by decide +kernel
theorem dX12_think_38 : decode cX12_think 38 = .ok (.iload_n 1, 1) := by decide +kernel
theorem dX12_think_39 : decode cX12_think 39 = .ok (.iadd, 1) := by decide +kernel
theorem dX12_think_40 : decode cX12_think 40 = .ok (.iload_n 2, 1) := by decide +kernel
theorem dX12_think_41 : decode cX12_think 41 = .ok (.iconst 1, 1) := by decide +kernel
theorem dX12_think_42 : decode cX12_think 42 = .ok (.iadd, 1) := by decide +kernel
theorem dX12_think_43 : decode cX12_think 43 = .ok (.invokevirtual 115, 3) := by decide +kernel
theorem dX12_think_46 : decode cX12_think 46 = .ok (.istore_n 3, 1) := by decide +kernel
theorem dX12_think_47 : decode cX12_think 47 = .ok (.iload_n 3, 1) := by decide +kernel
theorem dX12_think_48 : decode cX12_think 48 = .ok (.ifCond .ne 8, 3) := by decide +kernel
theorem dX12_think_51 : decode cX12_think 51 = .ok (.bipush (-4), 2) := by decide +kernel
theorem dX12_think_53 : decode cX12_think 53 = .ok (.goto 6, 3) := by decide +kernel
theorem dX12_think_56 : decode cX12_think 56 = .ok (.iload_n 3, 1) := by decide +kernel
theorem dX12_think_57 : decode cX12_think 57 = .ok (.iconst 1, 1) := by decide +kernel
theorem dX12_think_58 : decode cX12_think 58 = .ok (.isub, 1) := by decide +kernel
theorem dX12_think_59 : decode cX12_think 59 = .ok (.ireturn, 1) := by decide +kernel
theorem dX12_made_0 : decode cX12_made 0 = .ok (.iload_n 0, 1) := by decide +kernel
theorem dX12_made_1 : decode cX12_made 1 = .ok (.istore_n 2, 1) := by decide +kernel
theorem dX12_made_2 : decode cX12_made 2 = .ok (.iconst 0, 1) := by decide +kernel
theorem dX12_made_3 : decode cX12_made 3 = .ok (.istore_n 3, 1) := by decide +kernel
theorem dX12_made_4 : decode cX12_made 4 = .ok (.iload_n 3, 1) := by decide +kernel
theorem dX12_made_5 : decode cX12_made 5 = .ok (.iload_n 1, 1) := by decide +kernel
theorem dX12_made_6 : decode cX12_made 6 = .ok (.if_icmp .ge 13, 3) := by decide +kernel
theorem dX12_made_9 : decode cX12_made 9 = .ok (.iload_n 2, 1) := by decide +kernel
theorem dX12_made_10 : decode cX12_made 10 = .ok (.iconst 5, 1) := by decide +kernel
theorem dX12_made_11 : decode cX12_made 11 = .ok (.idiv, 1) := by decide +kernel
theorem dX12_made_12 : decode cX12_made 12 = .ok (.istore_n 2, 1) := by decide +kernel
theorem dX12_made_13 : decode cX12_made 13 = .ok (.iinc 3 1, 3) := by decide +kernel
theorem dX12_made_16 : decode cX12_made 16 = .ok (.goto (-12), 3) := by decide +kernel
theorem dX12_made_19 : decode cX12_made 19 = .ok (.iload_n 2, 1) := by decide +kernel
theorem dX12_made_20 : decode cX12_made 20 = .ok (.iconst 5, 1) := by decide +kernel
theorem dX12_made_21 : decode cX12_made 21 = .ok (.irem, 1) := by decide +kernel
theorem dX12_made_22 : decode cX12_made 22 = .ok (.ireturn, 1) := by decide +kernel
theorem dX12_fits_0 : decode cX12_fits 0 = .ok (.iconst 1, 1) := by decide +kernel
theorem dX12_fits_1 : decode cX12_fits 1 = .ok (.istore_n 1, 1) := by decide +kernel
theorem dX12_fits_2 : decode cX12_fits 2 = .ok (.iconst 0, 1) := by decide +kernel
theorem dX12_fits_3 : decode cX12_fits 3 = .ok (.istore_n 2, 1) := by decide +kernel
theorem dX12_fits_4 : decode cX12_fits 4 = .ok (.iload_n 2, 1) := by decide +kernel
theorem dX12_fits_5 : decode cX12_fits 5 = .ok (.aload_n 0, 1) := by decide +kernel
theorem dX12_fits_6 : decode cX12_fits 6 = .ok (.getfield 9, 3) := by decide +kernel
theorem dX12_fits_9 : decode cX12_fits 9 = .ok (.iconst 0, 1) := by decide +kernel
theorem dX12_fits_10 : decode cX12_fits 10 = .ok (.iaload, 1) := by decide +kernel
theorem dX12_fits_11 : decode cX12_fits 11 = .ok (.if_icmp .ge 13, 3) := by decide +kernel
theorem dX12_fits_14 : decode cX12_fits 14 = .ok (.iload_n 1, 1) := by decide +kernel
theorem dX12_fits_15 : decode cX12_fits 15 = .ok (.iconst 5, 1) := by decide +kernel
theorem dX12_fits_16 : decode cX12_fits 16 = .ok (.imul, 1) := by decide +kernel
theorem dX12_fits_17 : decode cX12_fits 17 = .ok (.istore_n 1, 1) := by decide +kernel
theorem dX12_fits_18 : decode cX12_fits 18 = .ok (.iinc 2 1, 3) := by decide +kernel
theorem dX12_fits_21 : decode cX12_fits 21 = .ok (.goto (-17), 3) := by decide +kernel
theorem dX12_fits_24 : decode cX12_fits 24 = .ok (.iload_n 1, 1) := by decide +kernel
theorem dX12_fits_25 : decode cX12_fits 25 = .ok (.ireturn, 1) := by decide +kernel
set_option maxRecDepth 20000 in
theorem ggX12_isFit_X12_fits : GoodIn wsX12_isFit wsX12_fits := goodIn_r _ [7, 1, 14, 15, 16, 17, 18, 19, 20, 21, 22, 23, 24, 25, 26, 27, 28, 29, 30, 31, 32, 33, 34, 35, 36, 37] (by decide +kernel) (by decide +kernel)
set_option maxRecDepth 20000 in
theorem gX12_isFit_X12_fits : GoodIn wsX12_isFit (wsV RX12 120 RX12 yX12_fits wsX12_fits) := goodIn_app (goodIn_of _ (by decide +kernel)) ggX12_isFit_X12_fits
set_option maxRecDepth 20000 in
theorem ggX12_isFit_X12_isIn : GoodIn wsX12_isFit wsX12_isIn := goodIn_r _ [10] (by decide +kernel) (by decide +kernel)
set_option maxRecDepth 20000 in
theorem gX12_isFit_X12_isIn : GoodIn wsX12_isFit (va_wsS RX12 50 yX12_isIn wsX12_isIn) := goodIn_app (goodIn_of _ (by decide +kernel)) ggX12_isFit_X12_isIn
set_option maxRecDepth 20000 in
theorem ggX12_isFit_X12_made : GoodIn wsX12_isFit wsX12_made := goodIn_r _ [13] (by decide +kernel) (by decide +kernel)
set_option maxRecDepth 20000 in
theorem gX12_isFit_X12_made : GoodIn wsX12_isFit (va_wsS RX12 123 yX12_made wsX12_made) := goodIn_app (goodIn_of _ (by decide +kernel)) ggX12_isFit_X12_made
theorem dX12_isFit_0 : decode cX12_isFit 0 = .ok (.iload_n 1, 1) := by decide +kernel
theorem dX12_isFit_1 : decode cX12_isFit 1 = .ok (.i2l, 1) := by decide +kernel
theorem dX12_isFit_2 : decode cX12_isFit 2 = .ok (.lconst 0, 1) := by decide +kernel
theorem dX12_isFit_3 : decode cX12_isFit 3 = .ok (.aload_n 0, 1) := by decide +kernel
theorem dX12_isFit_4 : decode cX12_isFit 4 = .ok (.invokevirtual 120, 3) := by decide +kernel
theorem dX12_isFit_7 : decode cX12_isFit 7 = .ok (.iconst 1, 1) := by decide +kernel
theorem dX12_isFit_8 : decode cX12_isFit 8 = .ok (.isub, 1) := by decide +kernel
theorem dX12_isFit_9 : decode cX12_isFit 9 = .ok (.i2l, 1) := by decide +kernel
theorem dX12_isFit_10 : decode cX12_isFit 10 = .ok (.invokestatic 50, 3) := by decide +kernel
theorem dX12_isFit_13 : decode cX12_isFit 13 = .ok (.ifCond .ne 5, 3) := by decide +kernel
theorem dX12_isFit_16 : decode cX12_isFit 16 = .ok (.iconst 0, 1) := by decide +kernel
theorem dX12_isFit_17 : decode cX12_isFit 17 = .ok (.ireturn, 1) := by decide +kernel
theorem dX12_isFit_18 : decode cX12_isFit 18 = .ok (.iconst 0, 1) := by decide +kernel
theorem dX12_isFit_19 : decode cX12_isFit 19 = .ok (.istore_n 2, 1) := by decide +kernel
theorem dX12_isFit_20 : decode cX12_isFit 20 = .ok (.iload_n 2, 1) := by decide +kernel
theorem dX12_isFit_21 : decode cX12_isFit 21 = .ok (.aload_n 0, 1) := by decide +kernel
theorem dX12_isFit_22 : decode cX12_isFit 22 = .ok (.getfield 9, 3) := by decide +kernel
theorem dX12_isFit_25 : decode cX12_isFit 25 = .ok (.iconst 0, 1) := by decide +kernel
theorem dX12_isFit_26 : decode cX12_isFit 26 = .ok (.iaload, 1) := by decide +kernel
theorem dX12_isFit_27 : decode cX12_isFit 27 = .ok (.if_icmp .ge 50, 3) := by decide +kernel
theorem dX12_isFit_30 : decode cX12_isFit 30 = .ok (.iload_n 1, 1) := by decide +kernel
theorem dX12_isFit_31 : decode cX12_isFit 31 = .ok (.iload_n 2, 1) := by decide +kernel
theorem dX12_isFit_32 : decode cX12_isFit 32 = .ok (.invokestatic 123, 3) := by decide +kernel
theorem dX12_isFit_35 : decode cX12_isFit 35 = .ok (.iconst 4, 1) := by decide +kernel
theorem dX12_isFit_36 : decode cX12_isFit 36 = .ok (.if_icmp .eq 35, 3) := by decide +kernel
theorem dX12_isFit_39 : decode cX12_isFit 39 = .ok (.iload_n 1, 1) := by decide +kernel
theorem dX12_isFit_40 : decode cX12_isFit 40 = .ok (.iload_n 2, 1) := by decide +kernel
theorem dX12_isFit_41 : decode cX12_isFit 41 = .ok (.invokestatic 123, 3) := by decide +kernel
theorem dX12_isFit_44 : decode cX12_isFit 44 = .ok (.aload_n 0, 1) := by decide +kernel
theorem dX12_isFit_45 : decode cX12_isFit 45 = .ok (.getfield 9, 3) := by decide +kernel
theorem dX12_isFit_48 : decode cX12_isFit 48 = .ok (.iconst 1, 1) := by decide +kernel
theorem dX12_isFit_49 : decode cX12_isFit 49 = .ok (.iaload, 1) := by decide +kernel
theorem dX12_isFit_50 : decode cX12_isFit 50 = .ok (.if_icmp .ge 19, 3) := by decide +kernel
theorem dX12_isFit_53 : decode cX12_isFit 53 = .ok (.aload_n 0, 1) := by decide +kernel
theorem dX12_isFit_54 : decode cX12_isFit 54 = .ok (.getfield 126, 3) := by decide +kernel
theorem dX12_isFit_57 : decode cX12_isFit 57 = .ok (.iload_n 1, 1) := by decide +kernel
theorem dX12_isFit_58 : decode cX12_isFit 58 = .ok (.iload_n 2, 1) := by decide +kernel
theorem dX12_isFit_59 : decode cX12_isFit 59 = .ok (.invokestatic 123, 3) := by decide +kernel
theorem dX12_isFit_62 : decode cX12_isFit 62 = .ok (.ishr, 1) := by decide +kernel
theorem dX12_isFit_63 : decode cX12_isFit 63 = .ok (.iconst 1, 1) := by decide +kernel
theorem dX12_isFit_64 : decode cX12_isFit 64 = .ok (.iand, 1) := by decide +kernel
theorem dX12_isFit_65 : decode cX12_isFit 65 = .ok (.iconst 1, 1) := by decide +kernel
theorem dX12_isFit_66 : decode cX12_isFit 66 = .ok (.if_icmp .ne 5, 3) := by decide +kernel
theorem dX12_isFit_69 : decode cX12_isFit 69 = .ok (.iconst 0, 1) := by decide +kernel
theorem dX12_isFit_70 : decode cX12_isFit 70 = .ok (.ireturn, 1) := by decide +kernel
theorem dX12_isFit_71 : decode cX12_isFit 71 = .ok (.iinc 2 1, 3) := by decide +kernel
theorem dX12_isFit_74 : decode cX12_isFit 74 = .ok (.goto (-54), 3) := by decide +kernel
theorem dX12_isFit_77 : decode cX12_isFit 77 = .ok (.iconst 1, 1) := by decide +kernel
theorem dX12_isFit_78 : decode cX12_isFit 78 = .ok (.ireturn, 1) := by decide +kernel
set_option maxRecDepth 20000 in
theorem ggX12_isMade_X12_made : GoodIn wsX12_isMade wsX12_made := goodIn_r _ [5] (by decide +kernel) (by decide +kernel)
set_option maxRecDepth 20000 in
theorem gX12_isMade_X12_made : GoodIn wsX12_isMade (va_wsS RX12 123 yX12_made wsX12_made) := goodIn_app (goodIn_of _ (by decide +kernel)) ggX12_isMade_X12_made
theorem dX12_isMade_0 : decode cX12_isMade 0 = .ok (.iconst 0, 1) := by decide +kernel
theorem dX12_isMade_1 : decode cX12_isMade 1 = .ok (.istore_n 3, 1) := by decide +kernel
theorem dX12_isMade_2 : decode cX12_isMade 2 = .ok (.iconst 0, 1) := by decide +kernel
theorem dX12_isMade_3 : decode cX12_isMade 3 = .ok (.istore 4, 2) := by decide +kernel
theorem dX12_isMade_5 : decode cX12_isMade 5 = .ok (.iload 4, 2) := by decide +kernel
theorem dX12_isMade_7 : decode cX12_isMade 7 = .ok (.aload_n 0, 1) := by decide +kernel
theorem dX12_isMade_8 : decode cX12_isMade 8 = .ok (.getfield 9, 3) := by decide +kernel
theorem dX12_isMade_11 : decode cX12_isMade 11 = .ok (.iconst 0, 1) := by decide +kernel
theorem dX12_isMade_12 : decode cX12_isMade 12 = .ok (.iaload, 1) := by decide +kernel
theorem dX12_isMade_13 : decode cX12_isMade 13 = .ok (.if_icmp .ge 29, 3) := by decide +kernel
theorem dX12_isMade_16 : decode cX12_isMade 16 = .ok (.iload_n 3, 1) := by decide +kernel
theorem dX12_isMade_17 : decode cX12_isMade 17 = .ok (.ifCond .ne 13, 3) := by decide +kernel
theorem dX12_isMade_20 : decode cX12_isMade 20 = .ok (.iload_n 1, 1) := by decide +kernel
theorem dX12_isMade_21 : decode cX12_isMade 21 = .ok (.iload 4, 2) := by decide +kernel
theorem dX12_isMade_23 : decode cX12_isMade 23 = .ok (.invokestatic 123, 3) := by decide +kernel
theorem dX12_isMade_26 : decode cX12_isMade 26 = .ok (.iload_n 2, 1) := by decide +kernel
theorem dX12_isMade_27 : decode cX12_isMade 27 = .ok (.if_icmp .ne 7, 3) := by decide +kernel
theorem dX12_isMade_30 : decode cX12_isMade 30 = .ok (.iconst 1, 1) := by decide +kernel
theorem dX12_isMade_31 : decode cX12_isMade 31 = .ok (.goto 4, 3) := by decide +kernel
theorem dX12_isMade_34 : decode cX12_isMade 34 = .ok (.iconst 0, 1) := by decide +kernel
theorem dX12_isMade_35 : decode cX12_isMade 35 = .ok (.istore_n 3, 1) := by decide +kernel
theorem dX12_isMade_36 : decode cX12_isMade 36 = .ok (.iinc 4 1, 3) := by decide +kernel
theorem dX12_isMade_39 : decode cX12_isMade 39 = .ok (.goto (-34), 3) := by decide +kernel
theorem dX12_isMade_42 : decode cX12_isMade 42 = .ok (.iload_n 3, 1) := by decide +kernel
theorem dX12_isMade_43 : decode cX12_isMade 43 = .ok (.ireturn, 1) := by decide +kernel
theorem dX12_leastWorth_0 : decode cX12_leastWorth 0 = .ok (.aload_n 0, 1) := by decide +kernel
theorem dX12_leastWorth_1 : decode cX12_leastWorth 1 = .ok (.getfield 9, 3) := by decide +kernel
theorem dX12_leastWorth_4 : decode cX12_leastWorth 4 = .ok (.bipush 7, 2) := by decide +kernel
theorem dX12_leastWorth_6 : decode cX12_leastWorth 6 = .ok (.iaload, 1) := by decide +kernel
theorem dX12_leastWorth_7 : decode cX12_leastWorth 7 = .ok (.istore_n 1, 1) := by decide +kernel
theorem dX12_leastWorth_8 : decode cX12_leastWorth 8 = .ok (.iconst 1, 1) := by decide +kernel
theorem dX12_leastWorth_9 : decode cX12_leastWorth 9 = .ok (.istore_n 2, 1) := by decide +kernel
theorem dX12_leastWorth_10 : decode cX12_leastWorth 10 = .ok (.iload_n 2, 1) := by decide +kernel
theorem dX12_leastWorth_11 : decode cX12_leastWorth 11 = .ok (.aload_n 0, 1) := by decide +kernel
theorem dX12_leastWorth_12 : decode cX12_leastWorth 12 = .ok (.getfield 9, 3) := by decide +kernel
theorem dX12_leastWorth_15 : decode cX12_leastWorth 15 = .ok (.iconst 0, 1) := by decide +kernel
theorem dX12_leastWorth_16 : decode cX12_leastWorth 16 = .ok (.iaload, 1) := by decide +kernel
theorem dX12_leastWorth_17 : decode cX12_leastWorth 17 = .ok (.if_icmp .ge 36, 3) := by decide +kernel
theorem dX12_leastWorth_20 : decode cX12_leastWorth 20 = .ok (.aload_n 0, 1) := by decide +kernel
theorem dX12_leastWorth_21 : decode cX12_leastWorth 21 = .ok (.getfield 9, 3) := by decide +kernel
theorem dX12_leastWorth_24 : decode cX12_leastWorth 24 = .ok (.bipush 7, 2) := by decide +kernel
theorem dX12_leastWorth_26 : decode cX12_leastWorth 26 = .ok (.iload_n 2, 1) := by decide +kernel
theorem dX12_leastWorth_27 : decode cX12_leastWorth 27 = .ok (.iadd, 1) := by decide +kernel
theorem dX12_leastWorth_28 : decode cX12_leastWorth 28 = .ok (.iaload, 1) := by decide +kernel
theorem dX12_leastWorth_29 : decode cX12_leastWorth 29 = .ok (.iload_n 1, 1) := by decide +kernel
theorem dX12_leastWorth_30 : decode cX12_leastWorth 30 = .ok (.if_icmp .ge 15, 3) := by decide +kernel
theorem dX12_leastWorth_33 : decode cX12_leastWorth 33 = .ok (.aload_n 0, 1) := by decide +kernel
theorem dX12_leastWorth_34 : decode cX12_leastWorth 34 = .ok (.getfield 9, 3) := by decide +kernel
theorem dX12_leastWorth_37 : decode cX12_leastWorth 37 = .ok (.bipush 7, 2) := by decide +kernel
theorem dX12_leastWorth_39 : decode cX12_leastWorth 39 = .ok (.iload_n 2, 1) := by decide +kernel
theorem dX12_leastWorth_40 : decode cX12_leastWorth 40 = .ok (.iadd, 1) := by decide +kernel
theorem dX12_leastWorth_41 : decode cX12_leastWorth 41 = .ok (.iaload, 1) := by decide +kernel
theorem dX12_leastWorth_42 : decode cX12_leastWorth 42 = .ok (.goto 4, 3) := by decide +kernel
theorem dX12_leastWorth_45 : decode cX12_leastWorth 45 = .ok (.iload_n 1, 1) := by decide +kernel
theorem dX12_leastWorth_46 : decode cX12_leastWorth 46 = .ok (.istore_n 1, 1) := by decide +kernel
theorem dX12_leastWorth_47 : decode cX12_leastWorth 47 = .ok (.iinc 2 1, 3) := by decide +kernel
theorem dX12_leastWorth_50 : decode cX12_leastWorth 50 = .ok (.goto (-40), 3) := by decide +kernel
theorem dX12_leastWorth_53 : decode cX12_leastWorth 53 = .ok (.iload_n 1, 1) := by decide +kernel
theorem dX12_leastWorth_54 : decode cX12_leastWorth 54 = .ok (.ireturn, 1) := by decide +kernel
set_option maxRecDepth 20000 in
theorem ggX12_findPay_X12_made : GoodIn wsX12_findPay wsX12_made := goodIn_r _ [8] (by decide +kernel) (by decide +kernel)
set_option maxRecDepth 20000 in
theorem gX12_findPay_X12_made : GoodIn wsX12_findPay (va_wsS RX12 123 yX12_made wsX12_made) := goodIn_app (goodIn_of _ (by decide +kernel)) ggX12_findPay_X12_made
set_option maxRecDepth 20000 in
theorem ggX12_findPay_X12_leastWorth : GoodIn wsX12_findPay wsX12_leastWorth := goodIn_r _ [12, 3, 13, 14, 15, 16, 17, 18, 19, 20, 21, 22, 23, 24, 25, 26, 27, 28, 29, 30, 31, 32, 33, 34, 35, 36] (by decide +kernel) (by decide +kernel)
set_option maxRecDepth 20000 in
theorem gX12_findPay_X12_leastWorth : GoodIn wsX12_findPay (wsV RX12 140 RX12 yX12_leastWorth wsX12_leastWorth) := goodIn_app (goodIn_of _ (by decide +kernel)) ggX12_findPay_X12_leastWorth
theorem dX12_findPay_0 : decode cX12_findPay 0 = .ok (.aload_n 0, 1) := by decide +kernel
theorem dX12_findPay_1 : decode cX12_findPay 1 = .ok (.lconst 0, 1) := by decide +kernel
theorem dX12_findPay_2 : decode cX12_findPay 2 = .ok (.putfield 129, 3) := by decide +kernel
theorem dX12_findPay_5 : decode cX12_findPay 5 = .ok (.aload_n 0, 1) := by decide +kernel
theorem dX12_findPay_6 : decode cX12_findPay 6 = .ok (.lconst 0, 1) := by decide +kernel
theorem dX12_findPay_7 : decode cX12_findPay 7 = .ok (.putfield 133, 3) := by decide +kernel
theorem dX12_findPay_10 : decode cX12_findPay 10 = .ok (.iconst 0, 1) := by decide +kernel
theorem dX12_findPay_11 : decode cX12_findPay 11 = .ok (.istore_n 3, 1) := by decide +kernel
theorem dX12_findPay_12 : decode cX12_findPay 12 = .ok (.iload_n 3, 1) := by decide +kernel
theorem dX12_findPay_13 : decode cX12_findPay 13 = .ok (.aload_n 0, 1) := by decide +kernel
theorem dX12_findPay_14 : decode cX12_findPay 14 = .ok (.getfield 9, 3) := by decide +kernel
theorem dX12_findPay_17 : decode cX12_findPay 17 = .ok (.iconst 0, 1) := by decide +kernel
theorem dX12_findPay_18 : decode cX12_findPay 18 = .ok (.iaload, 1) := by decide +kernel
theorem dX12_findPay_19 : decode cX12_findPay 19 = .ok (.if_icmp .ge 68, 3) := by decide +kernel
theorem dX12_findPay_22 : decode cX12_findPay 22 = .ok (.iload_n 1, 1) := by decide +kernel
theorem dX12_findPay_23 : decode cX12_findPay 23 = .ok (.iload_n 3, 1) := by decide +kernel
theorem dX12_findPay_24 : decode cX12_findPay 24 = .ok (.invokestatic 123, 3) := by decide +kernel
theorem dX12_findPay_27 : decode cX12_findPay 27 = .ok (.iload_n 2, 1) := by decide +kernel
theorem dX12_findPay_28 : decode cX12_findPay 28 = .ok (.if_icmp .eq 6, 3) := by decide +kernel
theorem dX12_findPay_31 : decode cX12_findPay 31 = .ok (.goto 50, 3) := by decide +kernel
theorem dX12_findPay_34 : decode cX12_findPay 34 = .ok (.aload_n 0, 1) := by decide +kernel
theorem dX12_findPay_35 : decode cX12_findPay 35 = .ok (.dup, 1) := by decide +kernel
theorem dX12_findPay_36 : decode cX12_findPay 36 = .ok (.getfield 129, 3) := by decide +kernel
theorem dX12_findPay_39 : decode cX12_findPay 39 = .ok (.aload_n 0, 1) := by decide +kernel
theorem dX12_findPay_40 : decode cX12_findPay 40 = .ok (.getfield 9, 3) := by decide +kernel
theorem dX12_findPay_43 : decode cX12_findPay 43 = .ok (.iconst 3, 1) := by decide +kernel
theorem dX12_findPay_44 : decode cX12_findPay 44 = .ok (.iload_n 3, 1) := by decide +kernel
theorem dX12_findPay_45 : decode cX12_findPay 45 = .ok (.iadd, 1) := by decide +kernel
theorem dX12_findPay_46 : decode cX12_findPay 46 = .ok (.iaload, 1) := by decide +kernel
theorem dX12_findPay_47 : decode cX12_findPay 47 = .ok (.i2l, 1) := by decide +kernel
theorem dX12_findPay_48 : decode cX12_findPay 48 = .ok (.aload_n 0, 1) := by decide +kernel
theorem dX12_findPay_49 : decode cX12_findPay 49 = .ok (.getfield 9, 3) := by decide +kernel
theorem dX12_findPay_52 : decode cX12_findPay 52 = .ok (.bipush 7, 2) := by decide +kernel
theorem dX12_findPay_54 : decode cX12_findPay 54 = .ok (.iload_n 3, 1) := by decide +kernel
theorem dX12_findPay_55 : decode cX12_findPay 55 = .ok (.iadd, 1) := by decide +kernel
theorem dX12_findPay_56 : decode cX12_findPay 56 = .ok (.iaload, 1) := by decide +kernel
theorem dX12_findPay_57 : decode cX12_findPay 57 = .ok (.i2l, 1) := by decide +kernel
theorem dX12_findPay_58 : decode cX12_findPay 58 = .ok (.lmul, 1) := by decide +kernel
theorem dX12_findPay_59 : decode cX12_findPay 59 = .ok (.ladd, 1) := by decide +kernel
theorem dX12_findPay_60 : decode cX12_findPay 60 = .ok (.putfield 129, 3) := by decide +kernel
theorem dX12_findPay_63 : decode cX12_findPay 63 = .ok (.aload_n 0, 1) := by decide +kernel
theorem dX12_findPay_64 : decode cX12_findPay 64 = .ok (.dup, 1) := by decide +kernel
theorem dX12_findPay_65 : decode cX12_findPay 65 = .ok (.getfield 133, 3) := by decide +kernel
theorem dX12_findPay_68 : decode cX12_findPay 68 = .ok (.aload_n 0, 1) := by decide +kernel
theorem dX12_findPay_69 : decode cX12_findPay 69 = .ok (.getfield 9, 3) := by decide +kernel
theorem dX12_findPay_72 : decode cX12_findPay 72 = .ok (.iconst 3, 1) := by decide +kernel
theorem dX12_findPay_73 : decode cX12_findPay 73 = .ok (.iload_n 3, 1) := by decide +kernel
theorem dX12_findPay_74 : decode cX12_findPay 74 = .ok (.iadd, 1) := by decide +kernel
theorem dX12_findPay_75 : decode cX12_findPay 75 = .ok (.iaload, 1) := by decide +kernel
theorem dX12_findPay_76 : decode cX12_findPay 76 = .ok (.i2l, 1) := by decide +kernel
theorem dX12_findPay_77 : decode cX12_findPay 77 = .ok (.ladd, 1) := by decide +kernel
theorem dX12_findPay_78 : decode cX12_findPay 78 = .ok (.putfield 133, 3) := by decide +kernel
theorem dX12_findPay_81 : decode cX12_findPay 81 = .ok (.iinc 3 1, 3) := by decide +kernel
theorem dX12_findPay_84 : decode cX12_findPay 84 = .ok (.goto (-72), 3) := by decide +kernel
theorem dX12_findPay_87 : decode cX12_findPay 87 = .ok (.aload_n 0, 1) := by decide +kernel
theorem dX12_findPay_88 : decode cX12_findPay 88 = .ok (.getfield 133, 3) := by decide +kernel
theorem dX12_findPay_91 : decode cX12_findPay 91 = .ok (.lconst 0, 1) := by decide +kernel
theorem dX12_findPay_92 : decode cX12_findPay 92 = .ok (.lcmp, 1) := by decide +kernel
theorem dX12_findPay_93 : decode cX12_findPay 93 = .ok (.ifCond .ne 59, 3) := by decide +kernel
theorem dX12_findPay_96 : decode cX12_findPay 96 = .ok (.aload_n 0, 1) := by decide +kernel
theorem dX12_findPay_97 : decode cX12_findPay 97 = .ok (.lconst 1, 1) := by decide +kernel
theorem dX12_findPay_98 : decode cX12_findPay 98 = .ok (.putfield 133, 3) := by decide +kernel
theorem dX12_findPay_101 : decode cX12_findPay 101 = .ok (.aload_n 0, 1) := by decide +kernel
theorem dX12_findPay_102 : decode cX12_findPay 102 = .ok (.aload_n 0, 1) := by decide +kernel
theorem dX12_findPay_103 : decode cX12_findPay 103 = .ok (.getfield 9, 3) := by decide +kernel
theorem dX12_findPay_106 : decode cX12_findPay 106 = .ok (.bipush 35, 2) := by decide +kernel
theorem dX12_findPay_108 : decode cX12_findPay 108 = .ok (.iload_n 2, 1) := by decide +kernel
theorem dX12_findPay_109 : decode cX12_findPay 109 = .ok (.iadd, 1) := by decide +kernel
theorem dX12_findPay_110 : decode cX12_findPay 110 = .ok (.iaload, 1) := by decide +kernel
theorem dX12_findPay_111 : decode cX12_findPay 111 = .ok (.ifCond .le 33, 3) := by decide +kernel
theorem dX12_findPay_114 : decode cX12_findPay 114 = .ok (.aload_n 0, 1) := by decide +kernel
theorem dX12_findPay_115 : decode cX12_findPay 115 = .ok (.getfield 136, 3) := by decide +kernel
theorem dX12_findPay_118 : decode cX12_findPay 118 = .ok (.ifCond .ne 26, 3) := by decide +kernel
theorem dX12_findPay_121 : decode cX12_findPay 121 = .ok (.aload_n 0, 1) := by decide +kernel
theorem dX12_findPay_122 : decode cX12_findPay 122 = .ok (.getfield 9, 3) := by decide +kernel
theorem dX12_findPay_125 : decode cX12_findPay 125 = .ok (.bipush 7, 2) := by decide +kernel
theorem dX12_findPay_127 : decode cX12_findPay 127 = .ok (.aload_n 0, 1) := by decide +kernel
theorem dX12_findPay_128 : decode cX12_findPay 128 = .ok (.getfield 9, 3) := by decide +kernel
theorem dX12_findPay_131 : decode cX12_findPay 131 = .ok (.bipush 35, 2) := by decide +kernel
theorem dX12_findPay_133 : decode cX12_findPay 133 = .ok (.iload_n 2, 1) := by decide +kernel
theorem dX12_findPay_134 : decode cX12_findPay 134 = .ok (.iadd, 1) := by decide +kernel
theorem dX12_findPay_135 : decode cX12_findPay 135 = .ok (.iaload, 1) := by decide +kernel
theorem dX12_findPay_136 : decode cX12_findPay 136 = .ok (.iadd, 1) := by decide +kernel
theorem dX12_findPay_137 : decode cX12_findPay 137 = .ok (.iconst 1, 1) := by decide +kernel
theorem dX12_findPay_138 : decode cX12_findPay 138 = .ok (.isub, 1) := by decide +kernel
theorem dX12_findPay_139 : decode cX12_findPay 139 = .ok (.iaload, 1) := by decide +kernel
theorem dX12_findPay_140 : decode cX12_findPay 140 = .ok (.i2l, 1) := by decide +kernel
theorem dX12_findPay_141 : decode cX12_findPay 141 = .ok (.goto 8, 3) := by decide +kernel
theorem dX12_findPay_144 : decode cX12_findPay 144 = .ok (.aload_n 0, 1) := by decide +kernel
theorem dX12_findPay_145 : decode cX12_findPay 145 = .ok (.invokevirtual 140, 3) := by decide +kernel
theorem dX12_findPay_148 : decode cX12_findPay 148 = .ok (.i2l, 1) := by decide +kernel
theorem dX12_findPay_149 : decode cX12_findPay 149 = .ok (.putfield 129, 3) := by decide +kernel
theorem dX12_findPay_152 : decode cX12_findPay 152 = .ok (.aload_n 0, 1) := by decide +kernel
theorem dX12_findPay_153 : decode cX12_findPay 153 = .ok (.dup, 1) := by decide +kernel
theorem dX12_findPay_154 : decode cX12_findPay 154 = .ok (.getfield 129, 3) := by decide +kernel
theorem dX12_findPay_157 : decode cX12_findPay 157 = .ok (.aload_n 0, 1) := by decide +kernel
theorem dX12_findPay_158 : decode cX12_findPay 158 = .ok (.getfield 9, 3) := by decide +kernel
theorem dX12_findPay_161 : decode cX12_findPay 161 = .ok (.bipush 15, 2) := by decide +kernel
theorem dX12_findPay_163 : decode cX12_findPay 163 = .ok (.iload_n 2, 1) := by decide +kernel
theorem dX12_findPay_164 : decode cX12_findPay 164 = .ok (.iadd, 1) := by decide +kernel
theorem dX12_findPay_165 : decode cX12_findPay 165 = .ok (.iaload, 1) := by decide +kernel
theorem dX12_findPay_166 : decode cX12_findPay 166 = .ok (.i2l, 1) := by decide +kernel
theorem dX12_findPay_167 : decode cX12_findPay 167 = .ok (.aload_n 0, 1) := by decide +kernel
theorem dX12_findPay_168 : decode cX12_findPay 168 = .ok (.getfield 133, 3) := by decide +kernel
theorem dX12_findPay_171 : decode cX12_findPay 171 = .ok (.lmul, 1) := by decide +kernel
theorem dX12_findPay_172 : decode cX12_findPay 172 = .ok (.ladd, 1) := by decide +kernel
theorem dX12_findPay_173 : decode cX12_findPay 173 = .ok (.putfield 129, 3) := by decide +kernel
theorem dX12_findPay_176 : decode cX12_findPay 176 = .ok (.return_, 1) := by decide +kernel
set_option maxRecDepth 20000 in
theorem ggX12_findGets_X12_findPay : GoodIn wsX12_findGets wsX12_findPay := goodIn_r _ [11, 3, 4, 2, 12, 13, 14, 10, 15, 16, 17, 18, 19, 20, 21, 22, 23, 24, 25, 26, 27, 28, 29, 30, 31, 32, 33, 34, 35, 36, 37, 38, 39, 40, 41, 42, 43] (by decide +kernel) (by decide +kernel)
set_option maxRecDepth 20000 in
theorem gX12_findGets_X12_findPay : GoodIn wsX12_findGets (wsV RX12 143 RX12 yX12_findPay wsX12_findPay) := goodIn_app (goodIn_of _ (by decide +kernel)) ggX12_findGets_X12_findPay
theorem dX12_findGets_0 : decode cX12_findGets 0 = .ok (.iload_n 3, 1) := by decide +kernel
theorem dX12_findGets_1 : decode cX12_findGets 1 = .ok (.iconst 4, 1) := by decide +kernel
theorem dX12_findGets_2 : decode cX12_findGets 2 = .ok (.if_icmp .ne 29, 3) := by decide +kernel
theorem dX12_findGets_5 : decode cX12_findGets 5 = .ok (.aload_n 0, 1) := by decide +kernel
theorem dX12_findGets_6 : decode cX12_findGets 6 = .ok (.aload_n 0, 1) := by decide +kernel
theorem dX12_findGets_7 : decode cX12_findGets 7 = .ok (.getfield 40, 3) := by decide +kernel
theorem dX12_findGets_10 : decode cX12_findGets 10 = .ok (.i2l, 1) := by decide +kernel
theorem dX12_findGets_11 : decode cX12_findGets 11 = .ok (.aload_n 0, 1) := by decide +kernel
theorem dX12_findGets_12 : decode cX12_findGets 12 = .ok (.getfield 9, 3) := by decide +kernel
theorem dX12_findGets_15 : decode cX12_findGets 15 = .ok (.bipush 11, 2) := by decide +kernel
theorem dX12_findGets_17 : decode cX12_findGets 17 = .ok (.iload_n 2, 1) := by decide +kernel
theorem dX12_findGets_18 : decode cX12_findGets 18 = .ok (.iadd, 1) := by decide +kernel
theorem dX12_findGets_19 : decode cX12_findGets 19 = .ok (.iaload, 1) := by decide +kernel
theorem dX12_findGets_20 : decode cX12_findGets 20 = .ok (.i2l, 1) := by decide +kernel
theorem dX12_findGets_21 : decode cX12_findGets 21 = .ok (.lmul, 1) := by decide +kernel
theorem dX12_findGets_22 : decode cX12_findGets 22 = .ok (.putfield 129, 3) := by decide +kernel
theorem dX12_findGets_25 : decode cX12_findGets 25 = .ok (.aload_n 0, 1) := by decide +kernel
theorem dX12_findGets_26 : decode cX12_findGets 26 = .ok (.lconst 1, 1) := by decide +kernel
theorem dX12_findGets_27 : decode cX12_findGets 27 = .ok (.putfield 133, 3) := by decide +kernel
theorem dX12_findGets_30 : decode cX12_findGets 30 = .ok (.return_, 1) := by decide +kernel
theorem dX12_findGets_31 : decode cX12_findGets 31 = .ok (.aload_n 0, 1) := by decide +kernel
theorem dX12_findGets_32 : decode cX12_findGets 32 = .ok (.iload_n 1, 1) := by decide +kernel
theorem dX12_findGets_33 : decode cX12_findGets 33 = .ok (.iload_n 3, 1) := by decide +kernel
theorem dX12_findGets_34 : decode cX12_findGets 34 = .ok (.invokevirtual 143, 3) := by decide +kernel
theorem dX12_findGets_37 : decode cX12_findGets 37 = .ok (.aload_n 0, 1) := by decide +kernel
theorem dX12_findGets_38 : decode cX12_findGets 38 = .ok (.getfield 40, 3) := by decide +kernel
theorem dX12_findGets_41 : decode cX12_findGets 41 = .ok (.iconst 1, 1) := by decide +kernel
theorem dX12_findGets_42 : decode cX12_findGets 42 = .ok (.if_icmp .gt 10, 3) := by decide +kernel
theorem dX12_findGets_45 : decode cX12_findGets 45 = .ok (.aload_n 0, 1) := by decide +kernel
theorem dX12_findGets_46 : decode cX12_findGets 46 = .ok (.getfield 147, 3) := by decide +kernel
theorem dX12_findGets_49 : decode cX12_findGets 49 = .ok (.ifCond .le 121, 3) := by decide +kernel
theorem dX12_findGets_52 : decode cX12_findGets 52 = .ok (.iconst 0, 1) := by decide +kernel
theorem dX12_findGets_53 : decode cX12_findGets 53 = .ok (.istore 4, 2) := by decide +kernel
theorem dX12_findGets_55 : decode cX12_findGets 55 = .ok (.iconst 0, 1) := by decide +kernel
theorem dX12_findGets_56 : decode cX12_findGets 56 = .ok (.istore 5, 2) := by decide +kernel
theorem dX12_findGets_58 : decode cX12_findGets 58 = .ok (.iload 5, 2) := by decide +kernel
theorem dX12_findGets_60 : decode cX12_findGets 60 = .ok (.aload_n 0, 1) := by decide +kernel
theorem dX12_findGets_61 : decode cX12_findGets 61 = .ok (.getfield 40, 3) := by decide +kernel
theorem dX12_findGets_64 : decode cX12_findGets 64 = .ok (.if_icmp .ge 42, 3) := by decide +kernel
theorem dX12_findGets_67 : decode cX12_findGets 67 = .ok (.iload 4, 2) := by decide +kernel
theorem dX12_findGets_69 : decode cX12_findGets 69 = .ok (.aload_n 0, 1) := by decide +kernel
theorem dX12_findGets_70 : decode cX12_findGets 70 = .ok (.getfield 9, 3) := by decide +kernel
theorem dX12_findGets_73 : decode cX12_findGets 73 = .ok (.iconst 2, 1) := by decide +kernel
theorem dX12_findGets_74 : decode cX12_findGets 74 = .ok (.iaload, 1) := by decide +kernel
theorem dX12_findGets_75 : decode cX12_findGets 75 = .ok (.iload 5, 2) := by decide +kernel
theorem dX12_findGets_77 : decode cX12_findGets 77 = .ok (.imul, 1) := by decide +kernel
theorem dX12_findGets_78 : decode cX12_findGets 78 = .ok (.bipush 100, 2) := by decide +kernel
theorem dX12_findGets_80 : decode cX12_findGets 80 = .ok (.if_icmp .le 8, 3) := by decide +kernel
theorem dX12_findGets_83 : decode cX12_findGets 83 = .ok (.bipush 100, 2) := by decide +kernel
theorem dX12_findGets_85 : decode cX12_findGets 85 = .ok (.goto 12, 3) := by decide +kernel
theorem dX12_findGets_88 : decode cX12_findGets 88 = .ok (.aload_n 0, 1) := by decide +kernel
theorem dX12_findGets_89 : decode cX12_findGets 89 = .ok (.getfield 9, 3) := by decide +kernel
theorem dX12_findGets_92 : decode cX12_findGets 92 = .ok (.iconst 2, 1) := by decide +kernel
theorem dX12_findGets_93 : decode cX12_findGets 93 = .ok (.iaload, 1) := by decide +kernel
theorem dX12_findGets_94 : decode cX12_findGets 94 = .ok (.iload 5, 2) := by decide +kernel
theorem dX12_findGets_96 : decode cX12_findGets 96 = .ok (.imul, 1) := by decide +kernel
theorem dX12_findGets_97 : decode cX12_findGets 97 = .ok (.iadd, 1) := by decide +kernel
theorem dX12_findGets_98 : decode cX12_findGets 98 = .ok (.istore 4, 2) := by decide +kernel
theorem dX12_findGets_100 : decode cX12_findGets 100 = .ok (.iinc 5 1, 3) := by decide +kernel
theorem dX12_findGets_103 : decode cX12_findGets 103 = .ok (.goto (-45), 3) := by decide +kernel
theorem dX12_findGets_106 : decode cX12_findGets 106 = .ok (.aload_n 0, 1) := by decide +kernel
theorem dX12_findGets_107 : decode cX12_findGets 107 = .ok (.ldc2_w 87, 3) := by decide +kernel
theorem dX12_findGets_110 : decode cX12_findGets 110 = .ok (.aload_n 0, 1) := by decide +kernel
theorem dX12_findGets_111 : decode cX12_findGets 111 = .ok (.getfield 40, 3) := by decide +kernel
theorem dX12_findGets_114 : decode cX12_findGets 114 = .ok (.i2l, 1) := by decide +kernel
theorem dX12_findGets_115 : decode cX12_findGets 115 = .ok (.lmul, 1) := by decide +kernel
theorem dX12_findGets_116 : decode cX12_findGets 116 = .ok (.iload 4, 2) := by decide +kernel
theorem dX12_findGets_118 : decode cX12_findGets 118 = .ok (.i2l, 1) := by decide +kernel
theorem dX12_findGets_119 : decode cX12_findGets 119 = .ok (.lsub, 1) := by decide +kernel
theorem dX12_findGets_120 : decode cX12_findGets 120 = .ok (.aload_n 0, 1) := by decide +kernel
theorem dX12_findGets_121 : decode cX12_findGets 121 = .ok (.getfield 129, 3) := by decide +kernel
theorem dX12_findGets_124 : decode cX12_findGets 124 = .ok (.lmul, 1) := by decide +kernel
theorem dX12_findGets_125 : decode cX12_findGets 125 = .ok (.iload 4, 2) := by decide +kernel
theorem dX12_findGets_127 : decode cX12_findGets 127 = .ok (.i2l, 1) := by decide +kernel
theorem dX12_findGets_128 : decode cX12_findGets 128 = .ok (.aload_n 0, 1) := by decide +kernel
theorem dX12_findGets_129 : decode cX12_findGets 129 = .ok (.getfield 9, 3) := by decide +kernel
theorem dX12_findGets_132 : decode cX12_findGets 132 = .ok (.bipush 7, 2) := by decide +kernel
theorem dX12_findGets_134 : decode cX12_findGets 134 = .ok (.iload_n 2, 1) := by decide +kernel
theorem dX12_findGets_135 : decode cX12_findGets 135 = .ok (.iadd, 1) := by decide +kernel
theorem dX12_findGets_136 : decode cX12_findGets 136 = .ok (.iaload, 1) := by decide +kernel
theorem dX12_findGets_137 : decode cX12_findGets 137 = .ok (.aload_n 0, 1) := by decide +kernel
theorem dX12_findGets_138 : decode cX12_findGets 138 = .ok (.getfield 9, 3) := by decide +kernel
theorem dX12_findGets_141 : decode cX12_findGets 141 = .ok (.bipush 15, 2) := by decide +kernel
theorem dX12_findGets_143 : decode cX12_findGets 143 = .ok (.iload_n 3, 1) := by decide +kernel
theorem dX12_findGets_144 : decode cX12_findGets 144 = .ok (.iadd, 1) := by decide +kernel
theorem dX12_findGets_145 : decode cX12_findGets 145 = .ok (.iaload, 1) := by decide +kernel
theorem dX12_findGets_146 : decode cX12_findGets 146 = .ok (.iadd, 1) := by decide +kernel
theorem dX12_findGets_147 : decode cX12_findGets 147 = .ok (.i2l, 1) := by decide +kernel
theorem dX12_findGets_148 : decode cX12_findGets 148 = .ok (.lmul, 1) := by decide +kernel
theorem dX12_findGets_149 : decode cX12_findGets 149 = .ok (.aload_n 0, 1) := by decide +kernel
theorem dX12_findGets_150 : decode cX12_findGets 150 = .ok (.getfield 133, 3) := by decide +kernel
theorem dX12_findGets_153 : decode cX12_findGets 153 = .ok (.lmul, 1) := by decide +kernel
theorem dX12_findGets_154 : decode cX12_findGets 154 = .ok (.ladd, 1) := by decide +kernel
theorem dX12_findGets_155 : decode cX12_findGets 155 = .ok (.putfield 129, 3) := by decide +kernel
theorem dX12_findGets_158 : decode cX12_findGets 158 = .ok (.aload_n 0, 1) := by decide +kernel
theorem dX12_findGets_159 : decode cX12_findGets 159 = .ok (.dup, 1) := by decide +kernel
theorem dX12_findGets_160 : decode cX12_findGets 160 = .ok (.getfield 133, 3) := by decide +kernel
theorem dX12_findGets_163 : decode cX12_findGets 163 = .ok (.ldc2_w 87, 3) := by decide +kernel
theorem dX12_findGets_166 : decode cX12_findGets 166 = .ok (.lmul, 1) := by decide +kernel
theorem dX12_findGets_167 : decode cX12_findGets 167 = .ok (.putfield 133, 3) := by decide +kernel
theorem dX12_findGets_170 : decode cX12_findGets 170 = .ok (.aload_n 0, 1) := by decide +kernel
theorem dX12_findGets_171 : decode cX12_findGets 171 = .ok (.dup, 1) := by decide +kernel
theorem dX12_findGets_172 : decode cX12_findGets 172 = .ok (.getfield 129, 3) := by decide +kernel
theorem dX12_findGets_175 : decode cX12_findGets 175 = .ok (.aload_n 0, 1) := by decide +kernel
theorem dX12_findGets_176 : decode cX12_findGets 176 = .ok (.getfield 9, 3) := by decide +kernel
theorem dX12_findGets_179 : decode cX12_findGets 179 = .ok (.bipush 19, 2) := by decide +kernel
theorem dX12_findGets_181 : decode cX12_findGets 181 = .ok (.iconst 4, 1) := by decide +kernel
theorem dX12_findGets_182 : decode cX12_findGets 182 = .ok (.iload_n 3, 1) := by decide +kernel
theorem dX12_findGets_183 : decode cX12_findGets 183 = .ok (.imul, 1) := by decide +kernel
theorem dX12_findGets_184 : decode cX12_findGets 184 = .ok (.iadd, 1) := by decide +kernel
theorem dX12_findGets_185 : decode cX12_findGets 185 = .ok (.iload_n 2, 1) := by decide +kernel
theorem dX12_findGets_186 : decode cX12_findGets 186 = .ok (.iadd, 1) := by decide +kernel
theorem dX12_findGets_187 : decode cX12_findGets 187 = .ok (.iaload, 1) := by decide +kernel
theorem dX12_findGets_188 : decode cX12_findGets 188 = .ok (.i2l, 1) := by decide +kernel
theorem dX12_findGets_189 : decode cX12_findGets 189 = .ok (.aload_n 0, 1) := by decide +kernel
theorem dX12_findGets_190 : decode cX12_findGets 190 = .ok (.getfield 133, 3) := by decide +kernel
theorem dX12_findGets_193 : decode cX12_findGets 193 = .ok (.lmul, 1) := by decide +kernel
theorem dX12_findGets_194 : decode cX12_findGets 194 = .ok (.lsub, 1) := by decide +kernel
theorem dX12_findGets_195 : decode cX12_findGets 195 = .ok (.putfield 129, 3) := by decide +kernel
theorem dX12_findGets_198 : decode cX12_findGets 198 = .ok (.return_, 1) := by decide +kernel
theorem dX12_common_0 : decode cX12_common 0 = .ok (.lload_n 0, 1) := by decide +kernel
theorem dX12_common_1 : decode cX12_common 1 = .ok (.lconst 0, 1) := by decide +kernel
theorem dX12_common_2 : decode cX12_common 2 = .ok (.lcmp, 1) := by decide +kernel
theorem dX12_common_3 : decode cX12_common 3 = .ok (.ifCond .ge 8, 3) := by decide +kernel
theorem dX12_common_6 : decode cX12_common 6 = .ok (.lload_n 0, 1) := by decide +kernel
theorem dX12_common_7 : decode cX12_common 7 = .ok (.lneg, 1) := by decide +kernel
theorem dX12_common_8 : decode cX12_common 8 = .ok (.goto 4, 3) := by decide +kernel
theorem dX12_common_11 : decode cX12_common 11 = .ok (.lload_n 0, 1) := by decide +kernel
theorem dX12_common_12 : decode cX12_common 12 = .ok (.lstore 4, 2) := by decide +kernel
theorem dX12_common_14 : decode cX12_common 14 = .ok (.lload_n 2, 1) := by decide +kernel
theorem dX12_common_15 : decode cX12_common 15 = .ok (.lstore 6, 2) := by decide +kernel
theorem dX12_common_17 : decode cX12_common 17 = .ok (.lload 6, 2) := by decide +kernel
theorem dX12_common_19 : decode cX12_common 19 = .ok (.lconst 0, 1) := by decide +kernel
theorem dX12_common_20 : decode cX12_common 20 = .ok (.lcmp, 1) := by decide +kernel
theorem dX12_common_21 : decode cX12_common 21 = .ok (.ifCond .eq 21, 3) := by decide +kernel
theorem dX12_common_24 : decode cX12_common 24 = .ok (.lload 4, 2) := by decide +kernel
theorem dX12_common_26 : decode cX12_common 26 = .ok (.lload 6, 2) := by decide +kernel
theorem dX12_common_28 : decode cX12_common 28 = .ok (.lrem, 1) := by decide +kernel
theorem dX12_common_29 : decode cX12_common 29 = .ok (.lstore 8, 2) := by decide +kernel
theorem dX12_common_31 : decode cX12_common 31 = .ok (.lload 6, 2) := by decide +kernel
theorem dX12_common_33 : decode cX12_common 33 = .ok (.lstore 4, 2) := by decide +kernel
theorem dX12_common_35 : decode cX12_common 35 = .ok (.lload 8, 2) := by decide +kernel
theorem dX12_common_37 : decode cX12_common 37 = .ok (.lstore 6, 2) := by decide +kernel
theorem dX12_common_39 : decode cX12_common 39 = .ok (.goto (-22), 3) := by decide +kernel
theorem dX12_common_42 : decode cX12_common 42 = .ok (.lload 4, 2) := by decide +kernel
theorem dX12_common_44 : decode cX12_common 44 = .ok (.lreturn, 1) := by decide +kernel
set_option maxRecDepth 20000 in
theorem ggX12_told_X12_common : GoodIn wsX12_told wsX12_common := goodIn_r _ [4] (by decide +kernel) (by decide +kernel)
set_option maxRecDepth 20000 in
theorem gX12_told_X12_common : GoodIn wsX12_told (va_wsS RX12 150 yX12_common wsX12_common) := goodIn_app (goodIn_of _ (by decide +kernel)) ggX12_told_X12_common
theorem dX12_told_0 : decode cX12_told 0 = .ok (.lload_n 0, 1) := by decide +kernel
theorem dX12_told_1 : decode cX12_told 1 = .ok (.lload_n 2, 1) := by decide +kernel
theorem dX12_told_2 : decode cX12_told 2 = .ok (.invokestatic 150, 3) := by decide +kernel
theorem dX12_told_5 : decode cX12_told 5 = .ok (.lstore 5, 2) := by decide +kernel
theorem dX12_told_7 : decode cX12_told 7 = .ok (.iload 4, 2) := by decide +kernel
theorem dX12_told_9 : decode cX12_told 9 = .ok (.ifCond .ne 10, 3) := by decide +kernel
theorem dX12_told_12 : decode cX12_told 12 = .ok (.lload_n 0, 1) := by decide +kernel
theorem dX12_told_13 : decode cX12_told 13 = .ok (.lload 5, 2) := by decide +kernel
theorem dX12_told_15 : decode cX12_told 15 = .ok (.ldiv, 1) := by decide +kernel
theorem dX12_told_16 : decode cX12_told 16 = .ok (.goto 7, 3) := by decide +kernel
theorem dX12_told_19 : decode cX12_told 19 = .ok (.lload_n 2, 1) := by decide +kernel
theorem dX12_told_20 : decode cX12_told 20 = .ok (.lload 5, 2) := by decide +kernel
theorem dX12_told_22 : decode cX12_told 22 = .ok (.ldiv, 1) := by decide +kernel
theorem dX12_told_23 : decode cX12_told 23 = .ok (.lreturn, 1) := by decide +kernel
set_option maxRecDepth 20000 in
theorem ggX12_pay_X12_isOpen : GoodIn wsX12_pay wsX12_isOpen := goodIn_r _ [8, 9, 44, 45, 46, 47, 48, 49, 50, 51, 52, 53, 54, 55, 56, 57, 58, 59, 60, 61, 62, 63, 64, 65, 66, 67] (by decide +kernel) (by decide +kernel)
set_option maxRecDepth 20000 in
theorem gX12_pay_X12_isOpen : GoodIn wsX12_pay (wsV RX12 102 RX12 yX12_isOpen wsX12_isOpen) := goodIn_app (goodIn_of _ (by decide +kernel)) ggX12_pay_X12_isOpen
set_option maxRecDepth 20000 in
theorem ggX12_pay_X12_isFit : GoodIn wsX12_pay wsX12_isFit := goodIn_r _ [13, 9, 14, 15, 16, 17, 7, 18, 19, 20, 21, 22, 23, 24, 44, 45, 46, 47, 48, 49, 50, 51, 52, 53, 54, 55, 56, 57, 58, 59, 60, 61, 62, 63, 64, 65, 66, 67] (by decide +kernel) (by decide +kernel)
set_option maxRecDepth 20000 in
theorem gX12_pay_X12_isFit : GoodIn wsX12_pay (wsV RX12 154 RX12 yX12_isFit wsX12_isFit) := goodIn_app (goodIn_of _ (by decide +kernel)) ggX12_pay_X12_isFit
set_option maxRecDepth 20000 in
theorem ggX12_pay_X12_isMark : GoodIn wsX12_pay wsX12_isMark := goodIn_r _ [28, 9, 19, 20, 7, 21, 44, 45, 46, 47, 48, 49, 50, 51, 52, 53, 54, 55, 56, 57, 58, 59, 60, 61, 62, 63, 64, 65, 66, 67] (by decide +kernel) (by decide +kernel)
set_option maxRecDepth 20000 in
theorem gX12_pay_X12_isMark : GoodIn wsX12_pay (wsV RX12 110 RX12 yX12_isMark wsX12_isMark) := goodIn_app (goodIn_of _ (by decide +kernel)) ggX12_pay_X12_isMark
set_option maxRecDepth 20000 in
theorem ggX12_pay_X12_isIn : GoodIn wsX12_pay wsX12_isIn := goodIn_r _ [21] (by decide +kernel) (by decide +kernel)
set_option maxRecDepth 20000 in
theorem gX12_pay_X12_isIn : GoodIn wsX12_pay (va_wsS RX12 50 yX12_isIn wsX12_isIn) := goodIn_app (goodIn_of _ (by decide +kernel)) ggX12_pay_X12_isIn
set_option maxRecDepth 20000 in
theorem ggX12_pay_X12_findPay : GoodIn wsX12_pay wsX12_findPay := goodIn_r _ [32, 2, 3, 9, 33, 22, 23, 7, 24, 34, 35, 36, 37, 44, 45, 46, 47, 48, 49, 50, 51, 52, 53, 54, 55, 56, 57, 58, 59, 60, 61, 62, 63, 64, 65, 66, 67] (by decide +kernel) (by decide +kernel)
set_option maxRecDepth 20000 in
theorem gX12_pay_X12_findPay : GoodIn wsX12_pay (wsV RX12 143 RX12 yX12_findPay wsX12_findPay) := goodIn_app (goodIn_of _ (by decide +kernel)) ggX12_pay_X12_findPay
set_option maxRecDepth 20000 in
theorem ggX12_pay_X12_told : GoodIn wsX12_pay wsX12_told := goodIn_r _ [40, 41, 42, 7, 43] (by decide +kernel) (by decide +kernel)
set_option maxRecDepth 20000 in
theorem gX12_pay_X12_told : GoodIn wsX12_pay (va_wsS RX12 159 yX12_told wsX12_told) := goodIn_app (goodIn_of _ (by decide +kernel)) ggX12_pay_X12_told
theorem dX12_pay_0 : decode cX12_pay 0 = .ok (.aload_n 0, 1) := by decide +kernel
theorem dX12_pay_1 : decode cX12_pay 1 = .ok (.invokevirtual 102, 3) := by decide +kernel
theorem dX12_pay_4 : decode cX12_pay 4 = .ok (.ifCond .eq 29, 3) := by decide +kernel
theorem dX12_pay_7 : decode cX12_pay 7 = .ok (.aload_n 0, 1) := by decide +kernel
theorem dX12_pay_8 : decode cX12_pay 8 = .ok (.iload_n 1, 1) := by decide +kernel
theorem dX12_pay_9 : decode cX12_pay 9 = .ok (.invokevirtual 154, 3) := by decide +kernel
theorem dX12_pay_12 : decode cX12_pay 12 = .ok (.ifCond .eq 21, 3) := by decide +kernel
theorem dX12_pay_15 : decode cX12_pay 15 = .ok (.aload_n 0, 1) := by decide +kernel
theorem dX12_pay_16 : decode cX12_pay 16 = .ok (.iload_n 2, 1) := by decide +kernel
theorem dX12_pay_17 : decode cX12_pay 17 = .ok (.invokevirtual 110, 3) := by decide +kernel
theorem dX12_pay_20 : decode cX12_pay 20 = .ok (.ifCond .eq 13, 3) := by decide +kernel
theorem dX12_pay_23 : decode cX12_pay 23 = .ok (.iload_n 3, 1) := by decide +kernel
theorem dX12_pay_24 : decode cX12_pay 24 = .ok (.i2l, 1) := by decide +kernel
theorem dX12_pay_25 : decode cX12_pay 25 = .ok (.lconst 0, 1) := by decide +kernel
theorem dX12_pay_26 : decode cX12_pay 26 = .ok (.lconst 1, 1) := by decide +kernel
theorem dX12_pay_27 : decode cX12_pay 27 = .ok (.invokestatic 50, 3) := by decide +kernel
theorem dX12_pay_30 : decode cX12_pay 30 = .ok (.ifCond .ne 7, 3) := by decide +kernel
theorem dX12_pay_33 : decode cX12_pay 33 = .ok (.ldc2_w 157, 3) := by decide +kernel
theorem dX12_pay_36 : decode cX12_pay 36 = .ok (.lreturn, 1) := by decide +kernel
theorem dX12_pay_37 : decode cX12_pay 37 = .ok (.aload_n 0, 1) := by decide +kernel
theorem dX12_pay_38 : decode cX12_pay 38 = .ok (.iload_n 1, 1) := by decide +kernel
theorem dX12_pay_39 : decode cX12_pay 39 = .ok (.iload_n 2, 1) := by decide +kernel
theorem dX12_pay_40 : decode cX12_pay 40 = .ok (.invokevirtual 143, 3) := by decide +kernel
theorem dX12_pay_43 : decode cX12_pay 43 = .ok (.aload_n 0, 1) := by decide +kernel
theorem dX12_pay_44 : decode cX12_pay 44 = .ok (.getfield 129, 3) := by decide +kernel
theorem dX12_pay_47 : decode cX12_pay 47 = .ok (.aload_n 0, 1) := by decide +kernel
theorem dX12_pay_48 : decode cX12_pay 48 = .ok (.getfield 133, 3) := by decide +kernel
theorem dX12_pay_51 : decode cX12_pay 51 = .ok (.iload_n 3, 1) := by decide +kernel
theorem dX12_pay_52 : decode cX12_pay 52 = .ok (.invokestatic 159, 3) := by decide +kernel
theorem dX12_pay_55 : decode cX12_pay 55 = .ok (.lreturn, 1) := by decide +kernel
set_option maxRecDepth 20000 in
theorem ggX12_gets_X12_isOpen : GoodIn wsX12_gets wsX12_isOpen := goodIn_r _ [8, 9, 51, 52, 53, 54, 55, 56, 57, 58, 59, 60, 61, 62, 63, 64, 65, 66, 67, 68, 69, 70, 71, 72, 73, 74] (by decide +kernel) (by decide +kernel)
set_option maxRecDepth 20000 in
theorem gX12_gets_X12_isOpen : GoodIn wsX12_gets (wsV RX12 102 RX12 yX12_isOpen wsX12_isOpen) := goodIn_app (goodIn_of _ (by decide +kernel)) ggX12_gets_X12_isOpen
set_option maxRecDepth 20000 in
theorem ggX12_gets_X12_isFit : GoodIn wsX12_gets wsX12_isFit := goodIn_r _ [13, 9, 14, 15, 16, 17, 7, 18, 19, 20, 21, 22, 23, 24, 51, 52, 53, 54, 55, 56, 57, 58, 59, 60, 61, 62, 63, 64, 65, 66, 67, 68, 69, 70, 71, 72, 73, 74] (by decide +kernel) (by decide +kernel)
set_option maxRecDepth 20000 in
theorem gX12_gets_X12_isFit : GoodIn wsX12_gets (wsV RX12 154 RX12 yX12_isFit wsX12_isFit) := goodIn_app (goodIn_of _ (by decide +kernel)) ggX12_gets_X12_isFit
set_option maxRecDepth 20000 in
theorem ggX12_gets_X12_isSort : GoodIn wsX12_gets wsX12_isSort := goodIn_r _ [28, 9, 19, 20, 7, 21, 51, 52, 53, 54, 55, 56, 57, 58, 59, 60, 61, 62, 63, 64, 65, 66, 67, 68, 69, 70, 71, 72, 73, 74] (by decide +kernel) (by decide +kernel)
set_option maxRecDepth 20000 in
theorem gX12_gets_X12_isSort : GoodIn wsX12_gets (wsV RX12 105 RX12 yX12_isSort wsX12_isSort) := goodIn_app (goodIn_of _ (by decide +kernel)) ggX12_gets_X12_isSort
set_option maxRecDepth 20000 in
theorem ggX12_gets_X12_isIn : GoodIn wsX12_gets wsX12_isIn := goodIn_r _ [21] (by decide +kernel) (by decide +kernel)
set_option maxRecDepth 20000 in
theorem gX12_gets_X12_isIn : GoodIn wsX12_gets (va_wsS RX12 50 yX12_isIn wsX12_isIn) := goodIn_app (goodIn_of _ (by decide +kernel)) ggX12_gets_X12_isIn
set_option maxRecDepth 20000 in
theorem ggX12_gets_X12_made : GoodIn wsX12_gets wsX12_made := goodIn_r _ [24] (by decide +kernel) (by decide +kernel)
set_option maxRecDepth 20000 in
theorem gX12_gets_X12_made : GoodIn wsX12_gets (va_wsS RX12 123 yX12_made wsX12_made) := goodIn_app (goodIn_of _ (by decide +kernel)) ggX12_gets_X12_made
set_option maxRecDepth 20000 in
theorem ggX12_gets_X12_findGets : GoodIn wsX12_gets wsX12_findGets := goodIn_r _ [32, 33, 9, 2, 3, 34, 35, 36, 37, 38, 7, 39, 40, 22, 23, 24, 41, 42, 43, 44, 51, 52, 53, 54, 55, 56, 57, 58, 59, 60, 61, 62, 63, 64, 65, 66, 67, 68, 69, 70, 71, 72, 73, 74] (by decide +kernel) (by decide +kernel)
set_option maxRecDepth 20000 in
theorem gX12_gets_X12_findGets : GoodIn wsX12_gets (wsV RX12 162 RX12 yX12_findGets wsX12_findGets) := goodIn_app (goodIn_of _ (by decide +kernel)) ggX12_gets_X12_findGets
set_option maxRecDepth 20000 in
theorem ggX12_gets_X12_told : GoodIn wsX12_gets wsX12_told := goodIn_r _ [47, 48, 49, 7, 50] (by decide +kernel) (by decide +kernel)
set_option maxRecDepth 20000 in
theorem gX12_gets_X12_told : GoodIn wsX12_gets (va_wsS RX12 159 yX12_told wsX12_told) := goodIn_app (goodIn_of _ (by decide +kernel)) ggX12_gets_X12_told
theorem dX12_gets_0 : decode cX12_gets 0 = .ok (.aload_n 0, 1) := by decide +kernel
theorem dX12_gets_1 : decode cX12_gets 1 = .ok (.invokevirtual 102, 3) := by decide +kernel
theorem dX12_gets_4 : decode cX12_gets 4 = .ok (.ifCond .eq 29, 3) := by decide +kernel
theorem dX12_gets_7 : decode cX12_gets 7 = .ok (.aload_n 0, 1) := by decide +kernel
theorem dX12_gets_8 : decode cX12_gets 8 = .ok (.iload_n 1, 1) := by decide +kernel
theorem dX12_gets_9 : decode cX12_gets 9 = .ok (.invokevirtual 154, 3) := by decide +kernel
theorem dX12_gets_12 : decode cX12_gets 12 = .ok (.ifCond .eq 21, 3) := by decide +kernel
theorem dX12_gets_15 : decode cX12_gets 15 = .ok (.aload_n 0, 1) := by decide +kernel
theorem dX12_gets_16 : decode cX12_gets 16 = .ok (.iload_n 2, 1) := by decide +kernel
theorem dX12_gets_17 : decode cX12_gets 17 = .ok (.invokevirtual 105, 3) := by decide +kernel
theorem dX12_gets_20 : decode cX12_gets 20 = .ok (.ifCond .eq 13, 3) := by decide +kernel
theorem dX12_gets_23 : decode cX12_gets 23 = .ok (.iload_n 3, 1) := by decide +kernel
theorem dX12_gets_24 : decode cX12_gets 24 = .ok (.i2l, 1) := by decide +kernel
theorem dX12_gets_25 : decode cX12_gets 25 = .ok (.lconst 0, 1) := by decide +kernel
theorem dX12_gets_26 : decode cX12_gets 26 = .ok (.lconst 1, 1) := by decide +kernel
theorem dX12_gets_27 : decode cX12_gets 27 = .ok (.invokestatic 50, 3) := by decide +kernel
theorem dX12_gets_30 : decode cX12_gets 30 = .ok (.ifCond .ne 7, 3) := by decide +kernel
theorem dX12_gets_33 : decode cX12_gets 33 = .ok (.ldc2_w 157, 3) := by decide +kernel
theorem dX12_gets_36 : decode cX12_gets 36 = .ok (.lreturn, 1) := by decide +kernel
theorem dX12_gets_37 : decode cX12_gets 37 = .ok (.aload_n 0, 1) := by decide +kernel
theorem dX12_gets_38 : decode cX12_gets 38 = .ok (.iload_n 1, 1) := by decide +kernel
theorem dX12_gets_39 : decode cX12_gets 39 = .ok (.iload_n 2, 1) := by decide +kernel
theorem dX12_gets_40 : decode cX12_gets 40 = .ok (.iload_n 1, 1) := by decide +kernel
theorem dX12_gets_41 : decode cX12_gets 41 = .ok (.iload_n 2, 1) := by decide +kernel
theorem dX12_gets_42 : decode cX12_gets 42 = .ok (.invokestatic 123, 3) := by decide +kernel
theorem dX12_gets_45 : decode cX12_gets 45 = .ok (.invokevirtual 162, 3) := by decide +kernel
theorem dX12_gets_48 : decode cX12_gets 48 = .ok (.aload_n 0, 1) := by decide +kernel
theorem dX12_gets_49 : decode cX12_gets 49 = .ok (.getfield 129, 3) := by decide +kernel
theorem dX12_gets_52 : decode cX12_gets 52 = .ok (.aload_n 0, 1) := by decide +kernel
theorem dX12_gets_53 : decode cX12_gets 53 = .ok (.getfield 133, 3) := by decide +kernel
theorem dX12_gets_56 : decode cX12_gets 56 = .ok (.iload_n 3, 1) := by decide +kernel
theorem dX12_gets_57 : decode cX12_gets 57 = .ok (.invokestatic 159, 3) := by decide +kernel
theorem dX12_gets_60 : decode cX12_gets 60 = .ok (.lreturn, 1) := by decide +kernel
set_option maxRecDepth 20000 in
theorem ggX12_ratherOf_X12_made : GoodIn wsX12_ratherOf wsX12_made := goodIn_r _ [8] (by decide +kernel) (by decide +kernel)
set_option maxRecDepth 20000 in
theorem gX12_ratherOf_X12_made : GoodIn wsX12_ratherOf (va_wsS RX12 123 yX12_made wsX12_made) := goodIn_app (goodIn_of _ (by decide +kernel)) ggX12_ratherOf_X12_made
set_option maxRecDepth 20000 in
theorem ggX12_ratherOf_X12_findGets : GoodIn wsX12_ratherOf wsX12_findGets := goodIn_r _ [12, 13, 1, 2, 3, 14, 15, 16, 17, 18, 7, 19, 20, 5, 6, 8, 21, 22, 23, 24, 32, 33, 34, 35, 36, 37, 38, 39, 40, 41, 42, 43, 44, 45, 46, 47, 48, 49, 50, 51, 52, 53, 54, 55] (by decide +kernel) (by decide +kernel)
set_option maxRecDepth 20000 in
theorem gX12_ratherOf_X12_findGets : GoodIn wsX12_ratherOf (wsV RX12 162 RX12 yX12_findGets wsX12_findGets) := goodIn_app (goodIn_of _ (by decide +kernel)) ggX12_ratherOf_X12_findGets
set_option maxRecDepth 20000 in
theorem ggX12_ratherOf_X12_isMark : GoodIn wsX12_ratherOf wsX12_isMark := goodIn_r _ [28, 1, 29, 30, 7, 31, 32, 33, 34, 35, 36, 37, 38, 39, 40, 41, 42, 43, 44, 45, 46, 47, 48, 49, 50, 51, 52, 53, 54, 55] (by decide +kernel) (by decide +kernel)
set_option maxRecDepth 20000 in
theorem gX12_ratherOf_X12_isMark : GoodIn wsX12_ratherOf (wsV RX12 110 RX12 yX12_isMark wsX12_isMark) := goodIn_app (goodIn_of _ (by decide +kernel)) ggX12_ratherOf_X12_isMark
theorem dX12_ratherOf_0 : decode cX12_ratherOf 0 = .ok (.iconst 0, 1) := by decide +kernel
theorem dX12_ratherOf_1 : decode cX12_ratherOf 1 = .ok (.istore_n 2, 1) := by decide +kernel
theorem dX12_ratherOf_2 : decode cX12_ratherOf 2 = .ok (.iload_n 2, 1) := by decide +kernel
theorem dX12_ratherOf_3 : decode cX12_ratherOf 3 = .ok (.aload_n 0, 1) := by decide +kernel
theorem dX12_ratherOf_4 : decode cX12_ratherOf 4 = .ok (.getfield 9, 3) := by decide +kernel
theorem dX12_ratherOf_7 : decode cX12_ratherOf 7 = .ok (.iconst 0, 1) := by decide +kernel
theorem dX12_ratherOf_8 : decode cX12_ratherOf 8 = .ok (.iaload, 1) := by decide +kernel
theorem dX12_ratherOf_9 : decode cX12_ratherOf 9 = .ok (.if_icmp .ge 110, 3) := by decide +kernel
theorem dX12_ratherOf_12 : decode cX12_ratherOf 12 = .ok (.aload_n 0, 1) := by decide +kernel
theorem dX12_ratherOf_13 : decode cX12_ratherOf 13 = .ok (.iload_n 1, 1) := by decide +kernel
theorem dX12_ratherOf_14 : decode cX12_ratherOf 14 = .ok (.iload_n 2, 1) := by decide +kernel
theorem dX12_ratherOf_15 : decode cX12_ratherOf 15 = .ok (.iload_n 1, 1) := by decide +kernel
theorem dX12_ratherOf_16 : decode cX12_ratherOf 16 = .ok (.iload_n 2, 1) := by decide +kernel
theorem dX12_ratherOf_17 : decode cX12_ratherOf 17 = .ok (.invokestatic 123, 3) := by decide +kernel
theorem dX12_ratherOf_20 : decode cX12_ratherOf 20 = .ok (.invokevirtual 162, 3) := by decide +kernel
theorem dX12_ratherOf_23 : decode cX12_ratherOf 23 = .ok (.aload_n 0, 1) := by decide +kernel
theorem dX12_ratherOf_24 : decode cX12_ratherOf 24 = .ok (.getfield 129, 3) := by decide +kernel
theorem dX12_ratherOf_27 : decode cX12_ratherOf 27 = .ok (.lstore_n 3, 1) := by decide +kernel
theorem dX12_ratherOf_28 : decode cX12_ratherOf 28 = .ok (.aload_n 0, 1) := by decide +kernel
theorem dX12_ratherOf_29 : decode cX12_ratherOf 29 = .ok (.getfield 133, 3) := by decide +kernel
theorem dX12_ratherOf_32 : decode cX12_ratherOf 32 = .ok (.lstore 5, 2) := by decide +kernel
theorem dX12_ratherOf_34 : decode cX12_ratherOf 34 = .ok (.iconst 0, 1) := by decide +kernel
theorem dX12_ratherOf_35 : decode cX12_ratherOf 35 = .ok (.istore 7, 2) := by decide +kernel
theorem dX12_ratherOf_37 : decode cX12_ratherOf 37 = .ok (.iload 7, 2) := by decide +kernel
theorem dX12_ratherOf_39 : decode cX12_ratherOf 39 = .ok (.iconst 4, 1) := by decide +kernel
theorem dX12_ratherOf_40 : decode cX12_ratherOf 40 = .ok (.if_icmp .gt 73, 3) := by decide +kernel
theorem dX12_ratherOf_43 : decode cX12_ratherOf 43 = .ok (.iload 7, 2) := by decide +kernel
theorem dX12_ratherOf_45 : decode cX12_ratherOf 45 = .ok (.iconst 4, 1) := by decide +kernel
theorem dX12_ratherOf_46 : decode cX12_ratherOf 46 = .ok (.if_icmp .eq 28, 3) := by decide +kernel
theorem dX12_ratherOf_49 : decode cX12_ratherOf 49 = .ok (.aload_n 0, 1) := by decide +kernel
theorem dX12_ratherOf_50 : decode cX12_ratherOf 50 = .ok (.iload 7, 2) := by decide +kernel
theorem dX12_ratherOf_52 : decode cX12_ratherOf 52 = .ok (.invokevirtual 110, 3) := by decide +kernel
theorem dX12_ratherOf_55 : decode cX12_ratherOf 55 = .ok (.ifCond .eq 52, 3) := by decide +kernel
theorem dX12_ratherOf_58 : decode cX12_ratherOf 58 = .ok (.aload_n 0, 1) := by decide +kernel
theorem dX12_ratherOf_59 : decode cX12_ratherOf 59 = .ok (.getfield 126, 3) := by decide +kernel
theorem dX12_ratherOf_62 : decode cX12_ratherOf 62 = .ok (.iload 7, 2) := by decide +kernel
theorem dX12_ratherOf_64 : decode cX12_ratherOf 64 = .ok (.ishr, 1) := by decide +kernel
theorem dX12_ratherOf_65 : decode cX12_ratherOf 65 = .ok (.iconst 1, 1) := by decide +kernel
theorem dX12_ratherOf_66 : decode cX12_ratherOf 66 = .ok (.iand, 1) := by decide +kernel
theorem dX12_ratherOf_67 : decode cX12_ratherOf 67 = .ok (.iconst 1, 1) := by decide +kernel
theorem dX12_ratherOf_68 : decode cX12_ratherOf 68 = .ok (.if_icmp .ne 6, 3) := by decide +kernel
theorem dX12_ratherOf_71 : decode cX12_ratherOf 71 = .ok (.goto 36, 3) := by decide +kernel
theorem dX12_ratherOf_74 : decode cX12_ratherOf 74 = .ok (.aload_n 0, 1) := by decide +kernel
theorem dX12_ratherOf_75 : decode cX12_ratherOf 75 = .ok (.iload_n 1, 1) := by decide +kernel
theorem dX12_ratherOf_76 : decode cX12_ratherOf 76 = .ok (.iload_n 2, 1) := by decide +kernel
theorem dX12_ratherOf_77 : decode cX12_ratherOf 77 = .ok (.iload 7, 2) := by decide +kernel
theorem dX12_ratherOf_79 : decode cX12_ratherOf 79 = .ok (.invokevirtual 162, 3) := by decide +kernel
theorem dX12_ratherOf_82 : decode cX12_ratherOf 82 = .ok (.aload_n 0, 1) := by decide +kernel
theorem dX12_ratherOf_83 : decode cX12_ratherOf 83 = .ok (.getfield 129, 3) := by decide +kernel
theorem dX12_ratherOf_86 : decode cX12_ratherOf 86 = .ok (.lload 5, 2) := by decide +kernel
theorem dX12_ratherOf_88 : decode cX12_ratherOf 88 = .ok (.lmul, 1) := by decide +kernel
theorem dX12_ratherOf_89 : decode cX12_ratherOf 89 = .ok (.lload_n 3, 1) := by decide +kernel
theorem dX12_ratherOf_90 : decode cX12_ratherOf 90 = .ok (.aload_n 0, 1) := by decide +kernel
theorem dX12_ratherOf_91 : decode cX12_ratherOf 91 = .ok (.getfield 133, 3) := by decide +kernel
theorem dX12_ratherOf_94 : decode cX12_ratherOf 94 = .ok (.lmul, 1) := by decide +kernel
theorem dX12_ratherOf_95 : decode cX12_ratherOf 95 = .ok (.lcmp, 1) := by decide +kernel
theorem dX12_ratherOf_96 : decode cX12_ratherOf 96 = .ok (.ifCond .le 11, 3) := by decide +kernel
theorem dX12_ratherOf_99 : decode cX12_ratherOf 99 = .ok (.bipush 10, 2) := by decide +kernel
theorem dX12_ratherOf_101 : decode cX12_ratherOf 101 = .ok (.iload_n 2, 1) := by decide +kernel
theorem dX12_ratherOf_102 : decode cX12_ratherOf 102 = .ok (.imul, 1) := by decide +kernel
theorem dX12_ratherOf_103 : decode cX12_ratherOf 103 = .ok (.iload 7, 2) := by decide +kernel
theorem dX12_ratherOf_105 : decode cX12_ratherOf 105 = .ok (.iadd, 1) := by decide +kernel
theorem dX12_ratherOf_106 : decode cX12_ratherOf 106 = .ok (.ireturn, 1) := by decide +kernel
theorem dX12_ratherOf_107 : decode cX12_ratherOf 107 = .ok (.iinc 7 1, 3) := by decide +kernel
theorem dX12_ratherOf_110 : decode cX12_ratherOf 110 = .ok (.goto (-73), 3) := by decide +kernel
theorem dX12_ratherOf_113 : decode cX12_ratherOf 113 = .ok (.iinc 2 1, 3) := by decide +kernel
theorem dX12_ratherOf_116 : decode cX12_ratherOf 116 = .ok (.goto (-114), 3) := by decide +kernel
theorem dX12_ratherOf_119 : decode cX12_ratherOf 119 = .ok (.bipush (-4), 2) := by decide +kernel
theorem dX12_ratherOf_121 : decode cX12_ratherOf 121 = .ok (.ireturn, 1) := by decide +kernel
set_option maxRecDepth 20000 in
theorem ggX12_isSure_X12_isFit : GoodIn wsX12_isSure wsX12_isFit := goodIn_r _ [5, 6, 7, 8, 9, 10, 4, 11, 12, 13, 14, 15, 16, 17, 44, 45, 46, 47, 48, 49, 50, 51, 52, 53, 54, 55, 56, 57, 58, 59, 60, 61, 62, 63, 64, 65, 66, 67] (by decide +kernel) (by decide +kernel)
set_option maxRecDepth 20000 in
theorem gX12_isSure_X12_isFit : GoodIn wsX12_isSure (wsV RX12 154 RX12 yX12_isFit wsX12_isFit) := goodIn_app (goodIn_of _ (by decide +kernel)) ggX12_isSure_X12_isFit
set_option maxRecDepth 20000 in
theorem ggX12_isSure_X12_ratherOf : GoodIn wsX12_isSure wsX12_ratherOf := goodIn_r _ [21, 6, 22, 23, 7, 15, 16, 4, 17, 24, 25, 26, 27, 28, 29, 30, 31, 32, 33, 34, 35, 36, 37, 38, 39, 40, 41, 42, 43, 12, 13, 14, 44, 45, 46, 47, 48, 49, 50, 51, 52, 53, 54, 55, 56, 57, 58, 59, 60, 61, 62, 63, 64, 65, 66, 67] (by decide +kernel) (by decide +kernel)
set_option maxRecDepth 20000 in
theorem gX12_isSure_X12_ratherOf : GoodIn wsX12_isSure (wsV RX12 166 RX12 yX12_ratherOf wsX12_ratherOf) := goodIn_app (goodIn_of _ (by decide +kernel)) ggX12_isSure_X12_ratherOf
theorem dX12_isSure_0 : decode cX12_isSure 0 = .ok (.aload_n 0, 1) := by decide +kernel
theorem dX12_isSure_1 : decode cX12_isSure 1 = .ok (.iload_n 1, 1) := by decide +kernel
theorem dX12_isSure_2 : decode cX12_isSure 2 = .ok (.invokevirtual 154, 3) := by decide +kernel
theorem dX12_isSure_5 : decode cX12_isSure 5 = .ok (.ifCond .eq 17, 3) := by decide +kernel
theorem dX12_isSure_8 : decode cX12_isSure 8 = .ok (.aload_n 0, 1) := by decide +kernel
theorem dX12_isSure_9 : decode cX12_isSure 9 = .ok (.iload_n 1, 1) := by decide +kernel
theorem dX12_isSure_10 : decode cX12_isSure 10 = .ok (.invokevirtual 166, 3) := by decide +kernel
theorem dX12_isSure_13 : decode cX12_isSure 13 = .ok (.bipush (-4), 2) := by decide +kernel
theorem dX12_isSure_15 : decode cX12_isSure 15 = .ok (.if_icmp .ne 7, 3) := by decide +kernel
theorem dX12_isSure_18 : decode cX12_isSure 18 = .ok (.iconst 1, 1) := by decide +kernel
theorem dX12_isSure_19 : decode cX12_isSure 19 = .ok (.goto 4, 3) := by decide +kernel
theorem dX12_isSure_22 : decode cX12_isSure 22 = .ok (.iconst 0, 1) := by decide +kernel
theorem dX12_isSure_23 : decode cX12_isSure 23 = .ok (.ireturn, 1) := by decide +kernel
set_option maxRecDepth 20000 in
theorem ggX12_rather_X12_isOpen : GoodIn wsX12_rather wsX12_isOpen := goodIn_r _ [5, 6, 48, 49, 50, 51, 52, 53, 54, 55, 56, 57, 58, 59, 60, 61, 62, 63, 64, 65, 66, 67, 68, 69, 70, 71] (by decide +kernel) (by decide +kernel)
set_option maxRecDepth 20000 in
theorem gX12_rather_X12_isOpen : GoodIn wsX12_rather (wsV RX12 102 RX12 yX12_isOpen wsX12_isOpen) := goodIn_app (goodIn_of _ (by decide +kernel)) ggX12_rather_X12_isOpen
set_option maxRecDepth 20000 in
theorem ggX12_rather_X12_isFit : GoodIn wsX12_rather wsX12_isFit := goodIn_r _ [10, 6, 11, 12, 13, 14, 4, 15, 16, 17, 18, 19, 20, 21, 48, 49, 50, 51, 52, 53, 54, 55, 56, 57, 58, 59, 60, 61, 62, 63, 64, 65, 66, 67, 68, 69, 70, 71] (by decide +kernel) (by decide +kernel)
set_option maxRecDepth 20000 in
theorem gX12_rather_X12_isFit : GoodIn wsX12_rather (wsV RX12 154 RX12 yX12_isFit wsX12_isFit) := goodIn_app (goodIn_of _ (by decide +kernel)) ggX12_rather_X12_isFit
set_option maxRecDepth 20000 in
theorem ggX12_rather_X12_ratherOf : GoodIn wsX12_rather wsX12_ratherOf := goodIn_r _ [25, 6, 26, 27, 11, 19, 20, 4, 21, 28, 29, 30, 31, 32, 33, 34, 35, 36, 37, 38, 39, 40, 41, 42, 43, 44, 45, 46, 47, 16, 17, 18, 48, 49, 50, 51, 52, 53, 54, 55, 56, 57, 58, 59, 60, 61, 62, 63, 64, 65, 66, 67, 68, 69, 70, 71] (by decide +kernel) (by decide +kernel)
set_option maxRecDepth 20000 in
theorem gX12_rather_X12_ratherOf : GoodIn wsX12_rather (wsV RX12 166 RX12 yX12_ratherOf wsX12_ratherOf) := goodIn_app (goodIn_of _ (by decide +kernel)) ggX12_rather_X12_ratherOf
theorem dX12_rather_0 : decode cX12_rather 0 = .ok (.aload_n 0, 1) := by decide +kernel
theorem dX12_rather_1 : decode cX12_rather 1 = .ok (.invokevirtual 102, 3) := by decide +kernel
theorem dX12_rather_4 : decode cX12_rather 4 = .ok (.ifCond .ne 8, 3) := by decide +kernel
theorem dX12_rather_7 : decode cX12_rather 7 = .ok (.bipush (-3), 2) := by decide +kernel
theorem dX12_rather_9 : decode cX12_rather 9 = .ok (.goto 20, 3) := by decide +kernel
theorem dX12_rather_12 : decode cX12_rather 12 = .ok (.aload_n 0, 1) := by decide +kernel
theorem dX12_rather_13 : decode cX12_rather 13 = .ok (.iload_n 1, 1) := by decide +kernel
theorem dX12_rather_14 : decode cX12_rather 14 = .ok (.invokevirtual 154, 3) := by decide +kernel
theorem dX12_rather_17 : decode cX12_rather 17 = .ok (.ifCond .eq 11, 3) := by decide +kernel
theorem dX12_rather_20 : decode cX12_rather 20 = .ok (.aload_n 0, 1) := by decide +kernel
theorem dX12_rather_21 : decode cX12_rather 21 = .ok (.iload_n 1, 1) := by decide +kernel
theorem dX12_rather_22 : decode cX12_rather 22 = .ok (.invokevirtual 166, 3) := by decide +kernel
theorem dX12_rather_25 : decode cX12_rather 25 = .ok (.goto 4, 3) := by decide +kernel
theorem dX12_rather_28 : decode cX12_rather 28 = .ok (.iconst (-1), 1) := by decide +kernel
theorem dX12_rather_29 : decode cX12_rather 29 = .ok (.ireturn, 1) := by decide +kernel
set_option maxRecDepth 20000 in
theorem ggX12_next_X12_isOpen : GoodIn wsX12_next wsX12_isOpen := goodIn_r _ [5, 6, 52, 53, 54, 55, 56, 57, 58, 59, 60, 61, 62, 63, 64, 65, 66, 67, 68, 69, 70, 71, 72, 73, 74, 75] (by decide +kernel) (by decide +kernel)
set_option maxRecDepth 20000 in
theorem gX12_next_X12_isOpen : GoodIn wsX12_next (wsV RX12 102 RX12 yX12_isOpen wsX12_isOpen) := goodIn_app (goodIn_of _ (by decide +kernel)) ggX12_next_X12_isOpen
set_option maxRecDepth 20000 in
theorem ggX12_next_X12_fits : GoodIn wsX12_next wsX12_fits := goodIn_r _ [10, 6, 52, 53, 54, 55, 56, 57, 58, 59, 60, 61, 62, 63, 64, 65, 66, 67, 68, 69, 70, 71, 72, 73, 74, 75] (by decide +kernel) (by decide +kernel)
set_option maxRecDepth 20000 in
theorem gX12_next_X12_fits : GoodIn wsX12_next (wsV RX12 120 RX12 yX12_fits wsX12_fits) := goodIn_app (goodIn_of _ (by decide +kernel)) ggX12_next_X12_fits
set_option maxRecDepth 20000 in
theorem ggX12_next_X12_isSure : GoodIn wsX12_next wsX12_isSure := goodIn_r _ [14, 15, 16, 17, 4, 18, 6, 19, 7, 8, 9, 10, 20, 21, 22, 23, 24, 25, 26, 27, 28, 29, 30, 31, 32, 33, 34, 35, 36, 37, 38, 39, 40, 41, 42, 43, 44, 45, 46, 47, 48, 49, 50, 51, 52, 53, 54, 55, 56, 57, 58, 59, 60, 61, 62, 63, 64, 65, 66, 67, 68, 69, 70, 71, 72, 73, 74, 75] (by decide +kernel) (by decide +kernel)
set_option maxRecDepth 20000 in
theorem gX12_next_X12_isSure : GoodIn wsX12_next (wsV RX12 170 RX12 yX12_isSure wsX12_isSure) := goodIn_app (goodIn_of _ (by decide +kernel)) ggX12_next_X12_isSure
theorem dX12_next_0 : decode cX12_next 0 = .ok (.aload_n 0, 1) := by decide +kernel
theorem dX12_next_1 : decode cX12_next 1 = .ok (.invokevirtual 102, 3) := by decide +kernel
theorem dX12_next_4 : decode cX12_next 4 = .ok (.ifCond .ne 6, 3) := by decide +kernel
theorem dX12_next_7 : decode cX12_next 7 = .ok (.bipush (-3), 2) := by decide +kernel
theorem dX12_next_9 : decode cX12_next 9 = .ok (.ireturn, 1) := by decide +kernel
theorem dX12_next_10 : decode cX12_next 10 = .ok (.iload_n 1, 1) := by decide +kernel
theorem dX12_next_11 : decode cX12_next 11 = .ok (.iconst (-1), 1) := by decide +kernel
theorem dX12_next_12 : decode cX12_next 12 = .ok (.if_icmp .ge 5, 3) := by decide +kernel
theorem dX12_next_15 : decode cX12_next 15 = .ok (.iconst (-1), 1) := by decide +kernel
theorem dX12_next_16 : decode cX12_next 16 = .ok (.ireturn, 1) := by decide +kernel
theorem dX12_next_17 : decode cX12_next 17 = .ok (.iload_n 1, 1) := by decide +kernel
theorem dX12_next_18 : decode cX12_next 18 = .ok (.iconst 1, 1) := by decide +kernel
theorem dX12_next_19 : decode cX12_next 19 = .ok (.iadd, 1) := by decide +kernel
theorem dX12_next_20 : decode cX12_next 20 = .ok (.istore_n 2, 1) := by decide +kernel
theorem dX12_next_21 : decode cX12_next 21 = .ok (.iload_n 2, 1) := by decide +kernel
theorem dX12_next_22 : decode cX12_next 22 = .ok (.ifCond .gt 12, 3) := by decide +kernel
theorem dX12_next_25 : decode cX12_next 25 = .ok (.iload_n 1, 1) := by decide +kernel
theorem dX12_next_26 : decode cX12_next 26 = .ok (.iconst (-1), 1) := by decide +kernel
theorem dX12_next_27 : decode cX12_next 27 = .ok (.if_icmp .ne 34, 3) := by decide +kernel
theorem dX12_next_30 : decode cX12_next 30 = .ok (.iload_n 2, 1) := by decide +kernel
theorem dX12_next_31 : decode cX12_next 31 = .ok (.ifCond .ne 30, 3) := by decide +kernel
theorem dX12_next_34 : decode cX12_next 34 = .ok (.iload_n 2, 1) := by decide +kernel
theorem dX12_next_35 : decode cX12_next 35 = .ok (.aload_n 0, 1) := by decide +kernel
theorem dX12_next_36 : decode cX12_next 36 = .ok (.invokevirtual 120, 3) := by decide +kernel
theorem dX12_next_39 : decode cX12_next 39 = .ok (.if_icmp .lt 6, 3) := by decide +kernel
theorem dX12_next_42 : decode cX12_next 42 = .ok (.bipush (-4), 2) := by decide +kernel
theorem dX12_next_44 : decode cX12_next 44 = .ok (.ireturn, 1) := by decide +kernel
theorem dX12_next_45 : decode cX12_next 45 = .ok (.aload_n 0, 1) := by decide +kernel
theorem dX12_next_46 : decode cX12_next 46 = .ok (.iload_n 2, 1) := by decide +kernel
theorem dX12_next_47 : decode cX12_next 47 = .ok (.invokevirtual 170, 3) := by decide +kernel
theorem dX12_next_50 : decode cX12_next 50 = .ok (.ifCond .eq 5, 3) := by decide +kernel
theorem dX12_next_53 : decode cX12_next 53 = .ok (.iload_n 2, 1) := by decide +kernel
theorem dX12_next_54 : decode cX12_next 54 = .ok (.ireturn, 1) := by decide +kernel
theorem dX12_next_55 : decode cX12_next 55 = .ok (.iinc 2 1, 3) := by decide +kernel
theorem dX12_next_58 : decode cX12_next 58 = .ok (.goto (-37), 3) := by decide +kernel
theorem dX12_next_61 : decode cX12_next 61 = .ok (.bipush (-4), 2) := by decide +kernel
theorem dX12_next_63 : decode cX12_next 63 = .ok (.ireturn, 1) := by decide +kernel
set_option maxRecDepth 20000 in
theorem ggX12_sure_X12_fits : GoodIn wsX12_sure wsX12_fits := goodIn_r _ [5, 6, 48, 49, 50, 51, 52, 53, 54, 55, 56, 57, 58, 59, 60, 61, 62, 63, 64, 65, 66, 67, 68, 69, 70, 71] (by decide +kernel) (by decide +kernel)
set_option maxRecDepth 20000 in
theorem gX12_sure_X12_fits : GoodIn wsX12_sure (wsV RX12 120 RX12 yX12_fits wsX12_fits) := goodIn_app (goodIn_of _ (by decide +kernel)) ggX12_sure_X12_fits
set_option maxRecDepth 20000 in
theorem ggX12_sure_X12_isSure : GoodIn wsX12_sure wsX12_isSure := goodIn_r _ [10, 11, 12, 13, 4, 14, 6, 15, 1, 2, 3, 5, 16, 17, 18, 19, 20, 21, 22, 23, 24, 25, 26, 27, 28, 29, 30, 31, 32, 33, 34, 35, 36, 37, 38, 39, 40, 41, 42, 43, 44, 45, 46, 47, 48, 49, 50, 51, 52, 53, 54, 55, 56, 57, 58, 59, 60, 61, 62, 63, 64, 65, 66, 67, 68, 69, 70, 71] (by decide +kernel) (by decide +kernel)
set_option maxRecDepth 20000 in
theorem gX12_sure_X12_isSure : GoodIn wsX12_sure (wsV RX12 170 RX12 yX12_isSure wsX12_isSure) := goodIn_app (goodIn_of _ (by decide +kernel)) ggX12_sure_X12_isSure
theorem dX12_sure_0 : decode cX12_sure 0 = .ok (.iconst 0, 1) := by decide +kernel
theorem dX12_sure_1 : decode cX12_sure 1 = .ok (.istore_n 1, 1) := by decide +kernel
theorem dX12_sure_2 : decode cX12_sure 2 = .ok (.iconst 0, 1) := by decide +kernel
theorem dX12_sure_3 : decode cX12_sure 3 = .ok (.istore_n 2, 1) := by decide +kernel
theorem dX12_sure_4 : decode cX12_sure 4 = .ok (.iload_n 2, 1) := by decide +kernel
theorem dX12_sure_5 : decode cX12_sure 5 = .ok (.aload_n 0, 1) := by decide +kernel
theorem dX12_sure_6 : decode cX12_sure 6 = .ok (.invokevirtual 120, 3) := by decide +kernel
theorem dX12_sure_9 : decode cX12_sure 9 = .ok (.if_icmp .ge 25, 3) := by decide +kernel
theorem dX12_sure_12 : decode cX12_sure 12 = .ok (.iload_n 1, 1) := by decide +kernel
theorem dX12_sure_13 : decode cX12_sure 13 = .ok (.aload_n 0, 1) := by decide +kernel
theorem dX12_sure_14 : decode cX12_sure 14 = .ok (.iload_n 2, 1) := by decide +kernel
theorem dX12_sure_15 : decode cX12_sure 15 = .ok (.invokevirtual 170, 3) := by decide +kernel
theorem dX12_sure_18 : decode cX12_sure 18 = .ok (.ifCond .eq 7, 3) := by decide +kernel
theorem dX12_sure_21 : decode cX12_sure 21 = .ok (.iconst 1, 1) := by decide +kernel
theorem dX12_sure_22 : decode cX12_sure 22 = .ok (.goto 4, 3) := by decide +kernel
theorem dX12_sure_25 : decode cX12_sure 25 = .ok (.iconst 0, 1) := by decide +kernel
theorem dX12_sure_26 : decode cX12_sure 26 = .ok (.iadd, 1) := by decide +kernel
theorem dX12_sure_27 : decode cX12_sure 27 = .ok (.istore_n 1, 1) := by decide +kernel
theorem dX12_sure_28 : decode cX12_sure 28 = .ok (.iinc 2 1, 3) := by decide +kernel
theorem dX12_sure_31 : decode cX12_sure 31 = .ok (.goto (-27), 3) := by decide +kernel
theorem dX12_sure_34 : decode cX12_sure 34 = .ok (.iload_n 1, 1) := by decide +kernel
theorem dX12_sure_35 : decode cX12_sure 35 = .ok (.ireturn, 1) := by decide +kernel
set_option maxRecDepth 20000 in
theorem ggX12_all_X12_isOpen : GoodIn wsX12_all wsX12_isOpen := goodIn_r _ [7, 8, 69, 70, 71, 72, 73, 74, 75, 76, 77, 78, 79, 80, 81, 82, 83, 84, 85, 86, 87, 88, 89, 90, 91, 92] (by decide +kernel) (by decide +kernel)
set_option maxRecDepth 20000 in
theorem gX12_all_X12_isOpen : GoodIn wsX12_all (wsV RX12 102 RX12 yX12_isOpen wsX12_isOpen) := goodIn_app (goodIn_of _ (by decide +kernel)) ggX12_all_X12_isOpen
set_option maxRecDepth 20000 in
theorem ggX12_all_X12_isIn : GoodIn wsX12_all wsX12_isIn := goodIn_r _ [11] (by decide +kernel) (by decide +kernel)
set_option maxRecDepth 20000 in
theorem gX12_all_X12_isIn : GoodIn wsX12_all (va_wsS RX12 50 yX12_isIn wsX12_isIn) := goodIn_app (goodIn_of _ (by decide +kernel)) ggX12_all_X12_isIn
set_option maxRecDepth 20000 in
theorem ggX12_all_X12_sure : GoodIn wsX12_all wsX12_sure := goodIn_r _ [15, 16, 17, 18, 6, 19, 8, 20, 21, 22, 23, 24, 25, 26, 27, 28, 9, 10, 11, 29, 30, 31, 32, 33, 34, 35, 36, 37, 38, 39, 40, 41, 42, 43, 44, 45, 46, 47, 48, 2, 49, 50, 51, 52, 53, 54, 55, 56, 69, 70, 71, 72, 73, 74, 75, 76, 77, 78, 79, 80, 81, 82, 83, 84, 85, 86, 87, 88, 89, 90, 91, 92] (by decide +kernel) (by decide +kernel)
set_option maxRecDepth 20000 in
theorem gX12_all_X12_sure : GoodIn wsX12_all (wsV RX12 173 RX12 yX12_sure wsX12_sure) := goodIn_app (goodIn_of _ (by decide +kernel)) ggX12_all_X12_sure
set_option maxRecDepth 20000 in
theorem ggX12_all_X12_fits : GoodIn wsX12_all wsX12_fits := goodIn_r _ [19, 8, 69, 70, 71, 72, 73, 74, 75, 76, 77, 78, 79, 80, 81, 82, 83, 84, 85, 86, 87, 88, 89, 90, 91, 92] (by decide +kernel) (by decide +kernel)
set_option maxRecDepth 20000 in
theorem gX12_all_X12_fits : GoodIn wsX12_all (wsV RX12 120 RX12 yX12_fits wsX12_fits) := goodIn_app (goodIn_of _ (by decide +kernel)) ggX12_all_X12_fits
set_option maxRecDepth 20000 in
theorem ggX12_all_X12_isSure : GoodIn wsX12_all wsX12_isSure := goodIn_r _ [23, 24, 25, 26, 6, 27, 8, 28, 16, 17, 18, 19, 9, 10, 11, 29, 30, 31, 32, 33, 34, 35, 36, 37, 38, 39, 40, 41, 42, 43, 44, 45, 46, 47, 48, 2, 49, 50, 51, 52, 53, 54, 55, 56, 69, 70, 71, 72, 73, 74, 75, 76, 77, 78, 79, 80, 81, 82, 83, 84, 85, 86, 87, 88, 89, 90, 91, 92] (by decide +kernel) (by decide +kernel)
set_option maxRecDepth 20000 in
theorem gX12_all_X12_isSure : GoodIn wsX12_all (wsV RX12 170 RX12 yX12_isSure wsX12_isSure) := goodIn_app (goodIn_of _ (by decide +kernel)) ggX12_all_X12_isSure
set_option maxRecDepth 20000 in
theorem ggX12_all_X12_fallsBy : GoodIn wsX12_all wsX12_fallsBy := goodIn_r _ [60, 8, 37, 36, 61, 62, 63, 6, 64, 29, 30, 31, 65, 66, 67, 68, 38, 39, 40, 41, 42, 43, 44, 45, 46, 47, 48, 2, 49, 50, 51, 52, 69, 70, 71, 72, 73, 74, 75, 76, 77, 78, 79, 80, 81, 82, 83, 84, 85, 86, 87, 88, 89, 90, 91, 92] (by decide +kernel) (by decide +kernel)
set_option maxRecDepth 20000 in
theorem gX12_all_X12_fallsBy : GoodIn wsX12_all (wsV RX12 176 RX12 yX12_fallsBy wsX12_fallsBy) := goodIn_app (goodIn_of _ (by decide +kernel)) ggX12_all_X12_fallsBy
theorem dX12_all_0 : decode cX12_all 0 = .ok (.aload_n 0, 1) := by decide +kernel
theorem dX12_all_1 : decode cX12_all 1 = .ok (.invokevirtual 102, 3) := by decide +kernel
theorem dX12_all_4 : decode cX12_all 4 = .ok (.ifCond .ne 6, 3) := by decide +kernel
theorem dX12_all_7 : decode cX12_all 7 = .ok (.bipush (-3), 2) := by decide +kernel
theorem dX12_all_9 : decode cX12_all 9 = .ok (.ireturn, 1) := by decide +kernel
theorem dX12_all_10 : decode cX12_all 10 = .ok (.iload_n 1, 1) := by decide +kernel
theorem dX12_all_11 : decode cX12_all 11 = .ok (.i2l, 1) := by decide +kernel
theorem dX12_all_12 : decode cX12_all 12 = .ok (.lconst 0, 1) := by decide +kernel
theorem dX12_all_13 : decode cX12_all 13 = .ok (.ldc2_w 108, 3) := by decide +kernel
theorem dX12_all_16 : decode cX12_all 16 = .ok (.invokestatic 50, 3) := by decide +kernel
theorem dX12_all_19 : decode cX12_all 19 = .ok (.ifCond .ne 5, 3) := by decide +kernel
theorem dX12_all_22 : decode cX12_all 22 = .ok (.iconst (-1), 1) := by decide +kernel
theorem dX12_all_23 : decode cX12_all 23 = .ok (.ireturn, 1) := by decide +kernel
theorem dX12_all_24 : decode cX12_all 24 = .ok (.aload_n 0, 1) := by decide +kernel
theorem dX12_all_25 : decode cX12_all 25 = .ok (.iload_n 1, 1) := by decide +kernel
theorem dX12_all_26 : decode cX12_all 26 = .ok (.iconst 1, 1) := by decide +kernel
theorem dX12_all_27 : decode cX12_all 27 = .ok (.if_icmp .ne 7, 3) := by decide +kernel
theorem dX12_all_30 : decode cX12_all 30 = .ok (.iconst 1, 1) := by decide +kernel
theorem dX12_all_31 : decode cX12_all 31 = .ok (.goto 4, 3) := by decide +kernel
theorem dX12_all_34 : decode cX12_all 34 = .ok (.iconst 0, 1) := by decide +kernel
theorem dX12_all_35 : decode cX12_all 35 = .ok (.putfield 136, 3) := by decide +kernel
theorem dX12_all_38 : decode cX12_all 38 = .ok (.iload_n 1, 1) := by decide +kernel
theorem dX12_all_39 : decode cX12_all 39 = .ok (.iconst 2, 1) := by decide +kernel
theorem dX12_all_40 : decode cX12_all 40 = .ok (.if_icmp .ne 7, 3) := by decide +kernel
theorem dX12_all_43 : decode cX12_all 43 = .ok (.iconst 0, 1) := by decide +kernel
theorem dX12_all_44 : decode cX12_all 44 = .ok (.goto 7, 3) := by decide +kernel
theorem dX12_all_47 : decode cX12_all 47 = .ok (.aload_n 0, 1) := by decide +kernel
theorem dX12_all_48 : decode cX12_all 48 = .ok (.invokevirtual 173, 3) := by decide +kernel
theorem dX12_all_51 : decode cX12_all 51 = .ok (.istore_n 2, 1) := by decide +kernel
theorem dX12_all_52 : decode cX12_all 52 = .ok (.aload_n 0, 1) := by decide +kernel
theorem dX12_all_53 : decode cX12_all 53 = .ok (.iconst 0, 1) := by decide +kernel
theorem dX12_all_54 : decode cX12_all 54 = .ok (.putfield 136, 3) := by decide +kernel
theorem dX12_all_57 : decode cX12_all 57 = .ok (.iconst 0, 1) := by decide +kernel
theorem dX12_all_58 : decode cX12_all 58 = .ok (.istore_n 3, 1) := by decide +kernel
theorem dX12_all_59 : decode cX12_all 59 = .ok (.iload_n 3, 1) := by decide +kernel
theorem dX12_all_60 : decode cX12_all 60 = .ok (.aload_n 0, 1) := by decide +kernel
theorem dX12_all_61 : decode cX12_all 61 = .ok (.invokevirtual 120, 3) := by decide +kernel
theorem dX12_all_64 : decode cX12_all 64 = .ok (.if_icmp .ge 40, 3) := by decide +kernel
theorem dX12_all_67 : decode cX12_all 67 = .ok (.iload_n 1, 1) := by decide +kernel
theorem dX12_all_68 : decode cX12_all 68 = .ok (.iconst 2, 1) := by decide +kernel
theorem dX12_all_69 : decode cX12_all 69 = .ok (.if_icmp .ne 35, 3) := by decide +kernel
theorem dX12_all_72 : decode cX12_all 72 = .ok (.iload_n 2, 1) := by decide +kernel
theorem dX12_all_73 : decode cX12_all 73 = .ok (.aload_n 0, 1) := by decide +kernel
theorem dX12_all_74 : decode cX12_all 74 = .ok (.iload_n 3, 1) := by decide +kernel
theorem dX12_all_75 : decode cX12_all 75 = .ok (.invokevirtual 170, 3) := by decide +kernel
theorem dX12_all_78 : decode cX12_all 78 = .ok (.ifCond .eq 17, 3) := by decide +kernel
theorem dX12_all_81 : decode cX12_all 81 = .ok (.aload_n 0, 1) := by decide +kernel
theorem dX12_all_82 : decode cX12_all 82 = .ok (.iload_n 3, 1) := by decide +kernel
theorem dX12_all_83 : decode cX12_all 83 = .ok (.invokevirtual 176, 3) := by decide +kernel
theorem dX12_all_86 : decode cX12_all 86 = .ok (.bipush (-4), 2) := by decide +kernel
theorem dX12_all_88 : decode cX12_all 88 = .ok (.if_icmp .ne 7, 3) := by decide +kernel
theorem dX12_all_91 : decode cX12_all 91 = .ok (.iconst 1, 1) := by decide +kernel
theorem dX12_all_92 : decode cX12_all 92 = .ok (.goto 4, 3) := by decide +kernel
theorem dX12_all_95 : decode cX12_all 95 = .ok (.iconst 0, 1) := by decide +kernel
theorem dX12_all_96 : decode cX12_all 96 = .ok (.iadd, 1) := by decide +kernel
theorem dX12_all_97 : decode cX12_all 97 = .ok (.istore_n 2, 1) := by decide +kernel
theorem dX12_all_98 : decode cX12_all 98 = .ok (.iinc 3 1, 3) := by decide +kernel
theorem dX12_all_101 : decode cX12_all 101 = .ok (.goto (-42), 3) := by decide +kernel
theorem dX12_all_104 : decode cX12_all 104 = .ok (.iload_n 2, 1) := by decide +kernel
theorem dX12_all_105 : decode cX12_all 105 = .ok (.ireturn, 1) := by decide +kernel
set_option maxRecDepth 20000 in
theorem ggX12_isBarred_X12_made : GoodIn wsX12_isBarred wsX12_made := goodIn_r _ [7] (by decide +kernel) (by decide +kernel)
set_option maxRecDepth 20000 in
theorem gX12_isBarred_X12_made : GoodIn wsX12_isBarred (va_wsS RX12 123 yX12_made wsX12_made) := goodIn_app (goodIn_of _ (by decide +kernel)) ggX12_isBarred_X12_made
set_option maxRecDepth 20000 in
theorem ggX12_isBarred_X12_findGets : GoodIn wsX12_isBarred wsX12_findGets := goodIn_r _ [11, 12, 1, 3, 2, 13, 14, 15, 16, 17, 6, 18, 19, 4, 5, 7, 20, 21, 22, 23, 24, 25, 26, 27, 28, 29, 30, 31, 32, 33, 34, 35, 36, 37, 38, 39, 40, 41, 42, 43, 44, 45, 46, 47] (by decide +kernel) (by decide +kernel)
set_option maxRecDepth 20000 in
theorem gX12_isBarred_X12_findGets : GoodIn wsX12_isBarred (wsV RX12 162 RX12 yX12_findGets wsX12_findGets) := goodIn_app (goodIn_of _ (by decide +kernel)) ggX12_isBarred_X12_findGets
theorem dX12_isBarred_0 : decode cX12_isBarred 0 = .ok (.iconst 0, 1) := by decide +kernel
theorem dX12_isBarred_1 : decode cX12_isBarred 1 = .ok (.istore 4, 2) := by decide +kernel
theorem dX12_isBarred_3 : decode cX12_isBarred 3 = .ok (.iconst 0, 1) := by decide +kernel
theorem dX12_isBarred_4 : decode cX12_isBarred 4 = .ok (.istore 5, 2) := by decide +kernel
theorem dX12_isBarred_6 : decode cX12_isBarred 6 = .ok (.iload 5, 2) := by decide +kernel
theorem dX12_isBarred_8 : decode cX12_isBarred 8 = .ok (.aload_n 0, 1) := by decide +kernel
theorem dX12_isBarred_9 : decode cX12_isBarred 9 = .ok (.getfield 9, 3) := by decide +kernel
theorem dX12_isBarred_12 : decode cX12_isBarred 12 = .ok (.iconst 0, 1) := by decide +kernel
theorem dX12_isBarred_13 : decode cX12_isBarred 13 = .ok (.iaload, 1) := by decide +kernel
theorem dX12_isBarred_14 : decode cX12_isBarred 14 = .ok (.if_icmp .ge 41, 3) := by decide +kernel
theorem dX12_isBarred_17 : decode cX12_isBarred 17 = .ok (.aload_n 0, 1) := by decide +kernel
theorem dX12_isBarred_18 : decode cX12_isBarred 18 = .ok (.getfield 9, 3) := by decide +kernel
theorem dX12_isBarred_21 : decode cX12_isBarred 21 = .ok (.bipush 7, 2) := by decide +kernel
theorem dX12_isBarred_23 : decode cX12_isBarred 23 = .ok (.iload 5, 2) := by decide +kernel
theorem dX12_isBarred_25 : decode cX12_isBarred 25 = .ok (.iadd, 1) := by decide +kernel
theorem dX12_isBarred_26 : decode cX12_isBarred 26 = .ok (.iaload, 1) := by decide +kernel
theorem dX12_isBarred_27 : decode cX12_isBarred 27 = .ok (.iload 4, 2) := by decide +kernel
theorem dX12_isBarred_29 : decode cX12_isBarred 29 = .ok (.if_icmp .le 16, 3) := by decide +kernel
theorem dX12_isBarred_32 : decode cX12_isBarred 32 = .ok (.aload_n 0, 1) := by decide +kernel
theorem dX12_isBarred_33 : decode cX12_isBarred 33 = .ok (.getfield 9, 3) := by decide +kernel
theorem dX12_isBarred_36 : decode cX12_isBarred 36 = .ok (.bipush 7, 2) := by decide +kernel
theorem dX12_isBarred_38 : decode cX12_isBarred 38 = .ok (.iload 5, 2) := by decide +kernel
theorem dX12_isBarred_40 : decode cX12_isBarred 40 = .ok (.iadd, 1) := by decide +kernel
theorem dX12_isBarred_41 : decode cX12_isBarred 41 = .ok (.iaload, 1) := by decide +kernel
theorem dX12_isBarred_42 : decode cX12_isBarred 42 = .ok (.goto 5, 3) := by decide +kernel
theorem dX12_isBarred_45 : decode cX12_isBarred 45 = .ok (.iload 4, 2) := by decide +kernel
theorem dX12_isBarred_47 : decode cX12_isBarred 47 = .ok (.istore 4, 2) := by decide +kernel
theorem dX12_isBarred_49 : decode cX12_isBarred 49 = .ok (.iinc 5 1, 3) := by decide +kernel
theorem dX12_isBarred_52 : decode cX12_isBarred 52 = .ok (.goto (-46), 3) := by decide +kernel
theorem dX12_isBarred_55 : decode cX12_isBarred 55 = .ok (.aload_n 0, 1) := by decide +kernel
theorem dX12_isBarred_56 : decode cX12_isBarred 56 = .ok (.iload_n 1, 1) := by decide +kernel
theorem dX12_isBarred_57 : decode cX12_isBarred 57 = .ok (.iload_n 3, 1) := by decide +kernel
theorem dX12_isBarred_58 : decode cX12_isBarred 58 = .ok (.iload_n 1, 1) := by decide +kernel
theorem dX12_isBarred_59 : decode cX12_isBarred 59 = .ok (.iload_n 3, 1) := by decide +kernel
theorem dX12_isBarred_60 : decode cX12_isBarred 60 = .ok (.invokestatic 123, 3) := by decide +kernel
theorem dX12_isBarred_63 : decode cX12_isBarred 63 = .ok (.invokevirtual 162, 3) := by decide +kernel
theorem dX12_isBarred_66 : decode cX12_isBarred 66 = .ok (.iload 4, 2) := by decide +kernel
theorem dX12_isBarred_68 : decode cX12_isBarred 68 = .ok (.aload_n 0, 1) := by decide +kernel
theorem dX12_isBarred_69 : decode cX12_isBarred 69 = .ok (.getfield 9, 3) := by decide +kernel
theorem dX12_isBarred_72 : decode cX12_isBarred 72 = .ok (.bipush 15, 2) := by decide +kernel
theorem dX12_isBarred_74 : decode cX12_isBarred 74 = .ok (.iload_n 2, 1) := by decide +kernel
theorem dX12_isBarred_75 : decode cX12_isBarred 75 = .ok (.iadd, 1) := by decide +kernel
theorem dX12_isBarred_76 : decode cX12_isBarred 76 = .ok (.iaload, 1) := by decide +kernel
theorem dX12_isBarred_77 : decode cX12_isBarred 77 = .ok (.iadd, 1) := by decide +kernel
theorem dX12_isBarred_78 : decode cX12_isBarred 78 = .ok (.aload_n 0, 1) := by decide +kernel
theorem dX12_isBarred_79 : decode cX12_isBarred 79 = .ok (.getfield 9, 3) := by decide +kernel
theorem dX12_isBarred_82 : decode cX12_isBarred 82 = .ok (.bipush 19, 2) := by decide +kernel
theorem dX12_isBarred_84 : decode cX12_isBarred 84 = .ok (.iconst 4, 1) := by decide +kernel
theorem dX12_isBarred_85 : decode cX12_isBarred 85 = .ok (.iload_n 2, 1) := by decide +kernel
theorem dX12_isBarred_86 : decode cX12_isBarred 86 = .ok (.imul, 1) := by decide +kernel
theorem dX12_isBarred_87 : decode cX12_isBarred 87 = .ok (.iadd, 1) := by decide +kernel
theorem dX12_isBarred_88 : decode cX12_isBarred 88 = .ok (.iload_n 3, 1) := by decide +kernel
theorem dX12_isBarred_89 : decode cX12_isBarred 89 = .ok (.iadd, 1) := by decide +kernel
theorem dX12_isBarred_90 : decode cX12_isBarred 90 = .ok (.iaload, 1) := by decide +kernel
theorem dX12_isBarred_91 : decode cX12_isBarred 91 = .ok (.isub, 1) := by decide +kernel
theorem dX12_isBarred_92 : decode cX12_isBarred 92 = .ok (.i2l, 1) := by decide +kernel
theorem dX12_isBarred_93 : decode cX12_isBarred 93 = .ok (.aload_n 0, 1) := by decide +kernel
theorem dX12_isBarred_94 : decode cX12_isBarred 94 = .ok (.getfield 133, 3) := by decide +kernel
theorem dX12_isBarred_97 : decode cX12_isBarred 97 = .ok (.lmul, 1) := by decide +kernel
theorem dX12_isBarred_98 : decode cX12_isBarred 98 = .ok (.aload_n 0, 1) := by decide +kernel
theorem dX12_isBarred_99 : decode cX12_isBarred 99 = .ok (.getfield 129, 3) := by decide +kernel
theorem dX12_isBarred_102 : decode cX12_isBarred 102 = .ok (.lcmp, 1) := by decide +kernel
theorem dX12_isBarred_103 : decode cX12_isBarred 103 = .ok (.ifCond .ge 7, 3) := by decide +kernel
theorem dX12_isBarred_106 : decode cX12_isBarred 106 = .ok (.iconst 1, 1) := by decide +kernel
theorem dX12_isBarred_107 : decode cX12_isBarred 107 = .ok (.goto 4, 3) := by decide +kernel
theorem dX12_isBarred_110 : decode cX12_isBarred 110 = .ok (.iconst 0, 1) := by decide +kernel
theorem dX12_isBarred_111 : decode cX12_isBarred 111 = .ok (.ireturn, 1) := by decide +kernel
set_option maxRecDepth 20000 in
theorem ggX12_fallsBy_X12_isMade : GoodIn wsX12_fallsBy wsX12_isMade := goodIn_r _ [8, 1, 9, 10, 7, 11, 32, 33, 34, 35, 36, 37, 38, 39, 40, 41, 42, 43, 44, 45, 46, 47, 48, 49, 50, 51, 52, 53, 54, 55] (by decide +kernel) (by decide +kernel)
set_option maxRecDepth 20000 in
theorem gX12_fallsBy_X12_isMade : GoodIn wsX12_fallsBy (wsV RX12 179 RX12 yX12_isMade wsX12_isMade) := goodIn_app (goodIn_of _ (by decide +kernel)) ggX12_fallsBy_X12_isMade
set_option maxRecDepth 20000 in
theorem ggX12_fallsBy_X12_isBarred : GoodIn wsX12_fallsBy wsX12_isBarred := goodIn_r _ [15, 1, 2, 3, 9, 10, 7, 11, 16, 17, 18, 19, 20, 21, 22, 23, 24, 25, 26, 27, 28, 29, 30, 31, 32, 33, 34, 35, 36, 37, 38, 39, 40, 41, 42, 43, 44, 45, 46, 47, 48, 49, 50, 51, 52, 53, 54, 55] (by decide +kernel) (by decide +kernel)
set_option maxRecDepth 20000 in
theorem gX12_fallsBy_X12_isBarred : GoodIn wsX12_fallsBy (wsV RX12 183 RX12 yX12_isBarred wsX12_isBarred) := goodIn_app (goodIn_of _ (by decide +kernel)) ggX12_fallsBy_X12_isBarred
set_option maxRecDepth 20000 in
theorem ggX12_fallsBy_X12_made : GoodIn wsX12_fallsBy wsX12_made := goodIn_r _ [11] (by decide +kernel) (by decide +kernel)
set_option maxRecDepth 20000 in
theorem gX12_fallsBy_X12_made : GoodIn wsX12_fallsBy (va_wsS RX12 123 yX12_made wsX12_made) := goodIn_app (goodIn_of _ (by decide +kernel)) ggX12_fallsBy_X12_made
set_option maxRecDepth 20000 in
theorem ggX12_fallsBy_X12_findGets : GoodIn wsX12_fallsBy wsX12_findGets := goodIn_r _ [19, 20, 1, 3, 2, 21, 22, 23, 24, 25, 7, 26, 27, 9, 10, 11, 28, 29, 30, 31, 32, 33, 34, 35, 36, 37, 38, 39, 40, 41, 42, 43, 44, 45, 46, 47, 48, 49, 50, 51, 52, 53, 54, 55] (by decide +kernel) (by decide +kernel)
set_option maxRecDepth 20000 in
theorem gX12_fallsBy_X12_findGets : GoodIn wsX12_fallsBy (wsV RX12 162 RX12 yX12_findGets wsX12_findGets) := goodIn_app (goodIn_of _ (by decide +kernel)) ggX12_fallsBy_X12_findGets
theorem dX12_fallsBy_0 : decode cX12_fallsBy 0 = .ok (.iconst 0, 1) := by decide +kernel
theorem dX12_fallsBy_1 : decode cX12_fallsBy 1 = .ok (.istore_n 2, 1) := by decide +kernel
theorem dX12_fallsBy_2 : decode cX12_fallsBy 2 = .ok (.iload_n 2, 1) := by decide +kernel
theorem dX12_fallsBy_3 : decode cX12_fallsBy 3 = .ok (.aload_n 0, 1) := by decide +kernel
theorem dX12_fallsBy_4 : decode cX12_fallsBy 4 = .ok (.getfield 9, 3) := by decide +kernel
theorem dX12_fallsBy_7 : decode cX12_fallsBy 7 = .ok (.iconst 1, 1) := by decide +kernel
theorem dX12_fallsBy_8 : decode cX12_fallsBy 8 = .ok (.iaload, 1) := by decide +kernel
theorem dX12_fallsBy_9 : decode cX12_fallsBy 9 = .ok (.if_icmp .ge 168, 3) := by decide +kernel
theorem dX12_fallsBy_12 : decode cX12_fallsBy 12 = .ok (.aload_n 0, 1) := by decide +kernel
theorem dX12_fallsBy_13 : decode cX12_fallsBy 13 = .ok (.iload_n 1, 1) := by decide +kernel
theorem dX12_fallsBy_14 : decode cX12_fallsBy 14 = .ok (.iload_n 2, 1) := by decide +kernel
theorem dX12_fallsBy_15 : decode cX12_fallsBy 15 = .ok (.invokevirtual 179, 3) := by decide +kernel
theorem dX12_fallsBy_18 : decode cX12_fallsBy 18 = .ok (.ifCond .eq 6, 3) := by decide +kernel
theorem dX12_fallsBy_21 : decode cX12_fallsBy 21 = .ok (.goto 150, 3) := by decide +kernel
theorem dX12_fallsBy_24 : decode cX12_fallsBy 24 = .ok (.iconst (-1), 1) := by decide +kernel
theorem dX12_fallsBy_25 : decode cX12_fallsBy 25 = .ok (.istore_n 3, 1) := by decide +kernel
theorem dX12_fallsBy_26 : decode cX12_fallsBy 26 = .ok (.iconst 0, 1) := by decide +kernel
theorem dX12_fallsBy_27 : decode cX12_fallsBy 27 = .ok (.istore 4, 2) := by decide +kernel
theorem dX12_fallsBy_29 : decode cX12_fallsBy 29 = .ok (.iload 4, 2) := by decide +kernel
theorem dX12_fallsBy_31 : decode cX12_fallsBy 31 = .ok (.aload_n 0, 1) := by decide +kernel
theorem dX12_fallsBy_32 : decode cX12_fallsBy 32 = .ok (.getfield 9, 3) := by decide +kernel
theorem dX12_fallsBy_35 : decode cX12_fallsBy 35 = .ok (.iconst 0, 1) := by decide +kernel
theorem dX12_fallsBy_36 : decode cX12_fallsBy 36 = .ok (.iaload, 1) := by decide +kernel
theorem dX12_fallsBy_37 : decode cX12_fallsBy 37 = .ok (.if_icmp .ge 49, 3) := by decide +kernel
theorem dX12_fallsBy_40 : decode cX12_fallsBy 40 = .ok (.aload_n 0, 1) := by decide +kernel
theorem dX12_fallsBy_41 : decode cX12_fallsBy 41 = .ok (.iload_n 1, 1) := by decide +kernel
theorem dX12_fallsBy_42 : decode cX12_fallsBy 42 = .ok (.iload_n 2, 1) := by decide +kernel
theorem dX12_fallsBy_43 : decode cX12_fallsBy 43 = .ok (.iload 4, 2) := by decide +kernel
theorem dX12_fallsBy_45 : decode cX12_fallsBy 45 = .ok (.invokevirtual 183, 3) := by decide +kernel
theorem dX12_fallsBy_48 : decode cX12_fallsBy 48 = .ok (.ifCond .ne 32, 3) := by decide +kernel
theorem dX12_fallsBy_51 : decode cX12_fallsBy 51 = .ok (.iload_n 3, 1) := by decide +kernel
theorem dX12_fallsBy_52 : decode cX12_fallsBy 52 = .ok (.ifCond .lt 17, 3) := by decide +kernel
theorem dX12_fallsBy_55 : decode cX12_fallsBy 55 = .ok (.aload_n 0, 1) := by decide +kernel
theorem dX12_fallsBy_56 : decode cX12_fallsBy 56 = .ok (.getfield 9, 3) := by decide +kernel
theorem dX12_fallsBy_59 : decode cX12_fallsBy 59 = .ok (.bipush 7, 2) := by decide +kernel
theorem dX12_fallsBy_61 : decode cX12_fallsBy 61 = .ok (.iload 4, 2) := by decide +kernel
theorem dX12_fallsBy_63 : decode cX12_fallsBy 63 = .ok (.iadd, 1) := by decide +kernel
theorem dX12_fallsBy_64 : decode cX12_fallsBy 64 = .ok (.iaload, 1) := by decide +kernel
theorem dX12_fallsBy_65 : decode cX12_fallsBy 65 = .ok (.iload_n 3, 1) := by decide +kernel
theorem dX12_fallsBy_66 : decode cX12_fallsBy 66 = .ok (.if_icmp .ge 14, 3) := by decide +kernel
theorem dX12_fallsBy_69 : decode cX12_fallsBy 69 = .ok (.aload_n 0, 1) := by decide +kernel
theorem dX12_fallsBy_70 : decode cX12_fallsBy 70 = .ok (.getfield 9, 3) := by decide +kernel
theorem dX12_fallsBy_73 : decode cX12_fallsBy 73 = .ok (.bipush 7, 2) := by decide +kernel
theorem dX12_fallsBy_75 : decode cX12_fallsBy 75 = .ok (.iload 4, 2) := by decide +kernel
theorem dX12_fallsBy_77 : decode cX12_fallsBy 77 = .ok (.iadd, 1) := by decide +kernel
theorem dX12_fallsBy_78 : decode cX12_fallsBy 78 = .ok (.iaload, 1) := by decide +kernel
theorem dX12_fallsBy_79 : decode cX12_fallsBy 79 = .ok (.istore_n 3, 1) := by decide +kernel
theorem dX12_fallsBy_80 : decode cX12_fallsBy 80 = .ok (.iinc 4 1, 3) := by decide +kernel
theorem dX12_fallsBy_83 : decode cX12_fallsBy 83 = .ok (.goto (-54), 3) := by decide +kernel
theorem dX12_fallsBy_86 : decode cX12_fallsBy 86 = .ok (.iconst 0, 1) := by decide +kernel
theorem dX12_fallsBy_87 : decode cX12_fallsBy 87 = .ok (.istore 4, 2) := by decide +kernel
theorem dX12_fallsBy_89 : decode cX12_fallsBy 89 = .ok (.iload 4, 2) := by decide +kernel
theorem dX12_fallsBy_91 : decode cX12_fallsBy 91 = .ok (.aload_n 0, 1) := by decide +kernel
theorem dX12_fallsBy_92 : decode cX12_fallsBy 92 = .ok (.getfield 9, 3) := by decide +kernel
theorem dX12_fallsBy_95 : decode cX12_fallsBy 95 = .ok (.iconst 0, 1) := by decide +kernel
theorem dX12_fallsBy_96 : decode cX12_fallsBy 96 = .ok (.iaload, 1) := by decide +kernel
theorem dX12_fallsBy_97 : decode cX12_fallsBy 97 = .ok (.if_icmp .ge 74, 3) := by decide +kernel
theorem dX12_fallsBy_100 : decode cX12_fallsBy 100 = .ok (.iload_n 3, 1) := by decide +kernel
theorem dX12_fallsBy_101 : decode cX12_fallsBy 101 = .ok (.ifCond .lt 70, 3) := by decide +kernel
theorem dX12_fallsBy_104 : decode cX12_fallsBy 104 = .ok (.aload_n 0, 1) := by decide +kernel
theorem dX12_fallsBy_105 : decode cX12_fallsBy 105 = .ok (.iload_n 1, 1) := by decide +kernel
theorem dX12_fallsBy_106 : decode cX12_fallsBy 106 = .ok (.iload 4, 2) := by decide +kernel
theorem dX12_fallsBy_108 : decode cX12_fallsBy 108 = .ok (.iload_n 1, 1) := by decide +kernel
theorem dX12_fallsBy_109 : decode cX12_fallsBy 109 = .ok (.iload 4, 2) := by decide +kernel
theorem dX12_fallsBy_111 : decode cX12_fallsBy 111 = .ok (.invokestatic 123, 3) := by decide +kernel
theorem dX12_fallsBy_114 : decode cX12_fallsBy 114 = .ok (.invokevirtual 162, 3) := by decide +kernel
theorem dX12_fallsBy_117 : decode cX12_fallsBy 117 = .ok (.iload_n 3, 1) := by decide +kernel
theorem dX12_fallsBy_118 : decode cX12_fallsBy 118 = .ok (.aload_n 0, 1) := by decide +kernel
theorem dX12_fallsBy_119 : decode cX12_fallsBy 119 = .ok (.getfield 9, 3) := by decide +kernel
theorem dX12_fallsBy_122 : decode cX12_fallsBy 122 = .ok (.bipush 15, 2) := by decide +kernel
theorem dX12_fallsBy_124 : decode cX12_fallsBy 124 = .ok (.iload_n 2, 1) := by decide +kernel
theorem dX12_fallsBy_125 : decode cX12_fallsBy 125 = .ok (.iadd, 1) := by decide +kernel
theorem dX12_fallsBy_126 : decode cX12_fallsBy 126 = .ok (.iaload, 1) := by decide +kernel
theorem dX12_fallsBy_127 : decode cX12_fallsBy 127 = .ok (.iadd, 1) := by decide +kernel
theorem dX12_fallsBy_128 : decode cX12_fallsBy 128 = .ok (.aload_n 0, 1) := by decide +kernel
theorem dX12_fallsBy_129 : decode cX12_fallsBy 129 = .ok (.getfield 9, 3) := by decide +kernel
theorem dX12_fallsBy_132 : decode cX12_fallsBy 132 = .ok (.bipush 19, 2) := by decide +kernel
theorem dX12_fallsBy_134 : decode cX12_fallsBy 134 = .ok (.iconst 4, 1) := by decide +kernel
theorem dX12_fallsBy_135 : decode cX12_fallsBy 135 = .ok (.iload_n 2, 1) := by decide +kernel
theorem dX12_fallsBy_136 : decode cX12_fallsBy 136 = .ok (.imul, 1) := by decide +kernel
theorem dX12_fallsBy_137 : decode cX12_fallsBy 137 = .ok (.iadd, 1) := by decide +kernel
theorem dX12_fallsBy_138 : decode cX12_fallsBy 138 = .ok (.iload 4, 2) := by decide +kernel
theorem dX12_fallsBy_140 : decode cX12_fallsBy 140 = .ok (.iadd, 1) := by decide +kernel
theorem dX12_fallsBy_141 : decode cX12_fallsBy 141 = .ok (.iaload, 1) := by decide +kernel
theorem dX12_fallsBy_142 : decode cX12_fallsBy 142 = .ok (.isub, 1) := by decide +kernel
theorem dX12_fallsBy_143 : decode cX12_fallsBy 143 = .ok (.i2l, 1) := by decide +kernel
theorem dX12_fallsBy_144 : decode cX12_fallsBy 144 = .ok (.aload_n 0, 1) := by decide +kernel
theorem dX12_fallsBy_145 : decode cX12_fallsBy 145 = .ok (.getfield 133, 3) := by decide +kernel
theorem dX12_fallsBy_148 : decode cX12_fallsBy 148 = .ok (.lmul, 1) := by decide +kernel
theorem dX12_fallsBy_149 : decode cX12_fallsBy 149 = .ok (.aload_n 0, 1) := by decide +kernel
theorem dX12_fallsBy_150 : decode cX12_fallsBy 150 = .ok (.getfield 129, 3) := by decide +kernel
theorem dX12_fallsBy_153 : decode cX12_fallsBy 153 = .ok (.lcmp, 1) := by decide +kernel
theorem dX12_fallsBy_154 : decode cX12_fallsBy 154 = .ok (.ifCond .le 11, 3) := by decide +kernel
theorem dX12_fallsBy_157 : decode cX12_fallsBy 157 = .ok (.bipush 10, 2) := by decide +kernel
theorem dX12_fallsBy_159 : decode cX12_fallsBy 159 = .ok (.iload_n 2, 1) := by decide +kernel
theorem dX12_fallsBy_160 : decode cX12_fallsBy 160 = .ok (.imul, 1) := by decide +kernel
theorem dX12_fallsBy_161 : decode cX12_fallsBy 161 = .ok (.iload 4, 2) := by decide +kernel
theorem dX12_fallsBy_163 : decode cX12_fallsBy 163 = .ok (.iadd, 1) := by decide +kernel
theorem dX12_fallsBy_164 : decode cX12_fallsBy 164 = .ok (.ireturn, 1) := by decide +kernel
theorem dX12_fallsBy_165 : decode cX12_fallsBy 165 = .ok (.iinc 4 1, 3) := by decide +kernel
theorem dX12_fallsBy_168 : decode cX12_fallsBy 168 = .ok (.goto (-79), 3) := by decide +kernel
theorem dX12_fallsBy_171 : decode cX12_fallsBy 171 = .ok (.iinc 2 1, 3) := by decide +kernel
theorem dX12_fallsBy_174 : decode cX12_fallsBy 174 = .ok (.goto (-172), 3) := by decide +kernel
theorem dX12_fallsBy_177 : decode cX12_fallsBy 177 = .ok (.bipush (-4), 2) := by decide +kernel
theorem dX12_fallsBy_179 : decode cX12_fallsBy 179 = .ok (.ireturn, 1) := by decide +kernel
set_option maxRecDepth 20000 in
theorem ggX12_falls_X12_isOpen : GoodIn wsX12_falls wsX12_isOpen := goodIn_r _ [5, 6, 64, 65, 66, 67, 68, 69, 70, 71, 72, 73, 74, 75, 76, 77, 78, 79, 80, 81, 82, 83, 84, 85, 86, 87] (by decide +kernel) (by decide +kernel)
set_option maxRecDepth 20000 in
theorem gX12_falls_X12_isOpen : GoodIn wsX12_falls (wsV RX12 102 RX12 yX12_isOpen wsX12_isOpen) := goodIn_app (goodIn_of _ (by decide +kernel)) ggX12_falls_X12_isOpen
set_option maxRecDepth 20000 in
theorem ggX12_falls_X12_isFit : GoodIn wsX12_falls wsX12_isFit := goodIn_r _ [10, 6, 11, 12, 13, 14, 4, 15, 16, 17, 18, 19, 20, 21, 64, 65, 66, 67, 68, 69, 70, 71, 72, 73, 74, 75, 76, 77, 78, 79, 80, 81, 82, 83, 84, 85, 86, 87] (by decide +kernel) (by decide +kernel)
set_option maxRecDepth 20000 in
theorem gX12_falls_X12_isFit : GoodIn wsX12_falls (wsV RX12 154 RX12 yX12_isFit wsX12_isFit) := goodIn_app (goodIn_of _ (by decide +kernel)) ggX12_falls_X12_isFit
set_option maxRecDepth 20000 in
theorem ggX12_falls_X12_isSure : GoodIn wsX12_falls wsX12_isSure := goodIn_r _ [25, 7, 8, 9, 4, 10, 6, 11, 12, 13, 14, 15, 16, 17, 18, 19, 20, 21, 26, 27, 28, 29, 30, 31, 32, 33, 34, 35, 36, 37, 38, 39, 40, 41, 42, 43, 44, 45, 46, 47, 48, 49, 50, 51, 64, 65, 66, 67, 68, 69, 70, 71, 72, 73, 74, 75, 76, 77, 78, 79, 80, 81, 82, 83, 84, 85, 86, 87] (by decide +kernel) (by decide +kernel)
set_option maxRecDepth 20000 in
theorem gX12_falls_X12_isSure : GoodIn wsX12_falls (wsV RX12 170 RX12 yX12_isSure wsX12_isSure) := goodIn_app (goodIn_of _ (by decide +kernel)) ggX12_falls_X12_isSure
set_option maxRecDepth 20000 in
theorem ggX12_falls_X12_fallsBy : GoodIn wsX12_falls wsX12_fallsBy := goodIn_r _ [55, 6, 31, 30, 56, 57, 58, 4, 59, 19, 20, 21, 60, 61, 62, 63, 32, 33, 34, 35, 36, 37, 38, 39, 40, 41, 42, 43, 44, 45, 46, 47, 64, 65, 66, 67, 68, 69, 70, 71, 72, 73, 74, 75, 76, 77, 78, 79, 80, 81, 82, 83, 84, 85, 86, 87] (by decide +kernel) (by decide +kernel)
set_option maxRecDepth 20000 in
theorem gX12_falls_X12_fallsBy : GoodIn wsX12_falls (wsV RX12 176 RX12 yX12_fallsBy wsX12_fallsBy) := goodIn_app (goodIn_of _ (by decide +kernel)) ggX12_falls_X12_fallsBy
theorem dX12_falls_0 : decode cX12_falls 0 = .ok (.aload_n 0, 1) := by decide +kernel
theorem dX12_falls_1 : decode cX12_falls 1 = .ok (.invokevirtual 102, 3) := by decide +kernel
theorem dX12_falls_4 : decode cX12_falls 4 = .ok (.ifCond .ne 8, 3) := by decide +kernel
theorem dX12_falls_7 : decode cX12_falls 7 = .ok (.bipush (-3), 2) := by decide +kernel
theorem dX12_falls_9 : decode cX12_falls 9 = .ok (.goto 33, 3) := by decide +kernel
theorem dX12_falls_12 : decode cX12_falls 12 = .ok (.aload_n 0, 1) := by decide +kernel
theorem dX12_falls_13 : decode cX12_falls 13 = .ok (.iload_n 1, 1) := by decide +kernel
theorem dX12_falls_14 : decode cX12_falls 14 = .ok (.invokevirtual 154, 3) := by decide +kernel
theorem dX12_falls_17 : decode cX12_falls 17 = .ok (.ifCond .ne 7, 3) := by decide +kernel
theorem dX12_falls_20 : decode cX12_falls 20 = .ok (.iconst (-1), 1) := by decide +kernel
theorem dX12_falls_21 : decode cX12_falls 21 = .ok (.goto 21, 3) := by decide +kernel
theorem dX12_falls_24 : decode cX12_falls 24 = .ok (.aload_n 0, 1) := by decide +kernel
theorem dX12_falls_25 : decode cX12_falls 25 = .ok (.iload_n 1, 1) := by decide +kernel
theorem dX12_falls_26 : decode cX12_falls 26 = .ok (.invokevirtual 170, 3) := by decide +kernel
theorem dX12_falls_29 : decode cX12_falls 29 = .ok (.ifCond .eq 11, 3) := by decide +kernel
theorem dX12_falls_32 : decode cX12_falls 32 = .ok (.aload_n 0, 1) := by decide +kernel
theorem dX12_falls_33 : decode cX12_falls 33 = .ok (.iload_n 1, 1) := by decide +kernel
theorem dX12_falls_34 : decode cX12_falls 34 = .ok (.invokevirtual 176, 3) := by decide +kernel
theorem dX12_falls_37 : decode cX12_falls 37 = .ok (.goto 5, 3) := by decide +kernel
theorem dX12_falls_40 : decode cX12_falls 40 = .ok (.bipush (-3), 2) := by decide +kernel
theorem dX12_falls_42 : decode cX12_falls 42 = .ok (.ireturn, 1) := by decide +kernel
set_option maxRecDepth 20000 in
theorem ggX12_barred_X12_isOpen : GoodIn wsX12_barred wsX12_isOpen := goodIn_r _ [5, 6, 64, 65, 66, 67, 68, 69, 70, 71, 72, 73, 74, 75, 76, 77, 78, 79, 80, 81, 82, 83, 84, 85, 86, 87] (by decide +kernel) (by decide +kernel)
set_option maxRecDepth 20000 in
theorem gX12_barred_X12_isOpen : GoodIn wsX12_barred (wsV RX12 102 RX12 yX12_isOpen wsX12_isOpen) := goodIn_app (goodIn_of _ (by decide +kernel)) ggX12_barred_X12_isOpen
set_option maxRecDepth 20000 in
theorem ggX12_barred_X12_isFit : GoodIn wsX12_barred wsX12_isFit := goodIn_r _ [10, 6, 11, 12, 13, 14, 4, 15, 16, 17, 18, 19, 20, 21, 64, 65, 66, 67, 68, 69, 70, 71, 72, 73, 74, 75, 76, 77, 78, 79, 80, 81, 82, 83, 84, 85, 86, 87] (by decide +kernel) (by decide +kernel)
set_option maxRecDepth 20000 in
theorem gX12_barred_X12_isFit : GoodIn wsX12_barred (wsV RX12 154 RX12 yX12_isFit wsX12_isFit) := goodIn_app (goodIn_of _ (by decide +kernel)) ggX12_barred_X12_isFit
set_option maxRecDepth 20000 in
theorem ggX12_barred_X12_isMark : GoodIn wsX12_barred wsX12_isMark := goodIn_r _ [25, 6, 16, 17, 4, 18, 64, 65, 66, 67, 68, 69, 70, 71, 72, 73, 74, 75, 76, 77, 78, 79, 80, 81, 82, 83, 84, 85, 86, 87] (by decide +kernel) (by decide +kernel)
set_option maxRecDepth 20000 in
theorem gX12_barred_X12_isMark : GoodIn wsX12_barred (wsV RX12 110 RX12 yX12_isMark wsX12_isMark) := goodIn_app (goodIn_of _ (by decide +kernel)) ggX12_barred_X12_isMark
set_option maxRecDepth 20000 in
theorem ggX12_barred_X12_isSort : GoodIn wsX12_barred wsX12_isSort := goodIn_r _ [29, 6, 16, 17, 4, 18, 64, 65, 66, 67, 68, 69, 70, 71, 72, 73, 74, 75, 76, 77, 78, 79, 80, 81, 82, 83, 84, 85, 86, 87] (by decide +kernel) (by decide +kernel)
set_option maxRecDepth 20000 in
theorem gX12_barred_X12_isSort : GoodIn wsX12_barred (wsV RX12 105 RX12 yX12_isSort wsX12_isSort) := goodIn_app (goodIn_of _ (by decide +kernel)) ggX12_barred_X12_isSort
set_option maxRecDepth 20000 in
theorem ggX12_barred_X12_isSure : GoodIn wsX12_barred wsX12_isSure := goodIn_r _ [33, 7, 8, 9, 4, 10, 6, 11, 12, 13, 14, 15, 16, 17, 18, 19, 20, 21, 34, 35, 36, 37, 38, 39, 40, 41, 42, 43, 44, 45, 46, 47, 48, 49, 50, 51, 52, 53, 54, 55, 22, 23, 24, 25, 64, 65, 66, 67, 68, 69, 70, 71, 72, 73, 74, 75, 76, 77, 78, 79, 80, 81, 82, 83, 84, 85, 86, 87] (by decide +kernel) (by decide +kernel)
set_option maxRecDepth 20000 in
theorem gX12_barred_X12_isSure : GoodIn wsX12_barred (wsV RX12 170 RX12 yX12_isSure wsX12_isSure) := goodIn_app (goodIn_of _ (by decide +kernel)) ggX12_barred_X12_isSure
set_option maxRecDepth 20000 in
theorem ggX12_barred_X12_isMade : GoodIn wsX12_barred wsX12_isMade := goodIn_r _ [59, 6, 19, 20, 4, 21, 64, 65, 66, 67, 68, 69, 70, 71, 72, 73, 74, 75, 76, 77, 78, 79, 80, 81, 82, 83, 84, 85, 86, 87] (by decide +kernel) (by decide +kernel)
set_option maxRecDepth 20000 in
theorem gX12_barred_X12_isMade : GoodIn wsX12_barred (wsV RX12 179 RX12 yX12_isMade wsX12_isMade) := goodIn_app (goodIn_of _ (by decide +kernel)) ggX12_barred_X12_isMade
set_option maxRecDepth 20000 in
theorem ggX12_barred_X12_isBarred : GoodIn wsX12_barred wsX12_isBarred := goodIn_r _ [63, 6, 39, 38, 19, 20, 4, 21, 40, 41, 42, 43, 44, 45, 46, 47, 48, 49, 50, 51, 52, 53, 54, 55, 64, 65, 66, 67, 68, 69, 70, 71, 72, 73, 74, 75, 76, 77, 78, 79, 80, 81, 82, 83, 84, 85, 86, 87] (by decide +kernel) (by decide +kernel)
set_option maxRecDepth 20000 in
theorem gX12_barred_X12_isBarred : GoodIn wsX12_barred (wsV RX12 183 RX12 yX12_isBarred wsX12_isBarred) := goodIn_app (goodIn_of _ (by decide +kernel)) ggX12_barred_X12_isBarred
theorem dX12_barred_0 : decode cX12_barred 0 = .ok (.aload_n 0, 1) := by decide +kernel
theorem dX12_barred_1 : decode cX12_barred 1 = .ok (.invokevirtual 102, 3) := by decide +kernel
theorem dX12_barred_4 : decode cX12_barred 4 = .ok (.ifCond .ne 6, 3) := by decide +kernel
theorem dX12_barred_7 : decode cX12_barred 7 = .ok (.bipush (-3), 2) := by decide +kernel
theorem dX12_barred_9 : decode cX12_barred 9 = .ok (.ireturn, 1) := by decide +kernel
theorem dX12_barred_10 : decode cX12_barred 10 = .ok (.aload_n 0, 1) := by decide +kernel
theorem dX12_barred_11 : decode cX12_barred 11 = .ok (.iload_n 1, 1) := by decide +kernel
theorem dX12_barred_12 : decode cX12_barred 12 = .ok (.invokevirtual 154, 3) := by decide +kernel
theorem dX12_barred_15 : decode cX12_barred 15 = .ok (.ifCond .eq 19, 3) := by decide +kernel
theorem dX12_barred_18 : decode cX12_barred 18 = .ok (.aload_n 0, 1) := by decide +kernel
theorem dX12_barred_19 : decode cX12_barred 19 = .ok (.iload_n 2, 1) := by decide +kernel
theorem dX12_barred_20 : decode cX12_barred 20 = .ok (.invokevirtual 110, 3) := by decide +kernel
theorem dX12_barred_23 : decode cX12_barred 23 = .ok (.ifCond .eq 11, 3) := by decide +kernel
theorem dX12_barred_26 : decode cX12_barred 26 = .ok (.aload_n 0, 1) := by decide +kernel
theorem dX12_barred_27 : decode cX12_barred 27 = .ok (.iload_n 3, 1) := by decide +kernel
theorem dX12_barred_28 : decode cX12_barred 28 = .ok (.invokevirtual 105, 3) := by decide +kernel
theorem dX12_barred_31 : decode cX12_barred 31 = .ok (.ifCond .ne 5, 3) := by decide +kernel
theorem dX12_barred_34 : decode cX12_barred 34 = .ok (.iconst (-1), 1) := by decide +kernel
theorem dX12_barred_35 : decode cX12_barred 35 = .ok (.ireturn, 1) := by decide +kernel
theorem dX12_barred_36 : decode cX12_barred 36 = .ok (.aload_n 0, 1) := by decide +kernel
theorem dX12_barred_37 : decode cX12_barred 37 = .ok (.iload_n 1, 1) := by decide +kernel
theorem dX12_barred_38 : decode cX12_barred 38 = .ok (.invokevirtual 170, 3) := by decide +kernel
theorem dX12_barred_41 : decode cX12_barred 41 = .ok (.ifCond .eq 12, 3) := by decide +kernel
theorem dX12_barred_44 : decode cX12_barred 44 = .ok (.aload_n 0, 1) := by decide +kernel
theorem dX12_barred_45 : decode cX12_barred 45 = .ok (.iload_n 1, 1) := by decide +kernel
theorem dX12_barred_46 : decode cX12_barred 46 = .ok (.iload_n 2, 1) := by decide +kernel
theorem dX12_barred_47 : decode cX12_barred 47 = .ok (.invokevirtual 179, 3) := by decide +kernel
theorem dX12_barred_50 : decode cX12_barred 50 = .ok (.ifCond .eq 8, 3) := by decide +kernel
theorem dX12_barred_53 : decode cX12_barred 53 = .ok (.bipush (-3), 2) := by decide +kernel
theorem dX12_barred_55 : decode cX12_barred 55 = .ok (.goto 18, 3) := by decide +kernel
theorem dX12_barred_58 : decode cX12_barred 58 = .ok (.aload_n 0, 1) := by decide +kernel
theorem dX12_barred_59 : decode cX12_barred 59 = .ok (.iload_n 1, 1) := by decide +kernel
theorem dX12_barred_60 : decode cX12_barred 60 = .ok (.iload_n 2, 1) := by decide +kernel
theorem dX12_barred_61 : decode cX12_barred 61 = .ok (.iload_n 3, 1) := by decide +kernel
theorem dX12_barred_62 : decode cX12_barred 62 = .ok (.invokevirtual 183, 3) := by decide +kernel
theorem dX12_barred_65 : decode cX12_barred 65 = .ok (.ifCond .eq 7, 3) := by decide +kernel
theorem dX12_barred_68 : decode cX12_barred 68 = .ok (.iconst 1, 1) := by decide +kernel
theorem dX12_barred_69 : decode cX12_barred 69 = .ok (.goto 4, 3) := by decide +kernel
theorem dX12_barred_72 : decode cX12_barred 72 = .ok (.iconst 0, 1) := by decide +kernel
theorem dX12_barred_73 : decode cX12_barred 73 = .ok (.ireturn, 1) := by decide +kernel
set_option maxRecDepth 20000 in
theorem ggX12_findLots_X12_made : GoodIn wsX12_findLots wsX12_made := goodIn_r _ [7] (by decide +kernel) (by decide +kernel)
set_option maxRecDepth 20000 in
theorem gX12_findLots_X12_made : GoodIn wsX12_findLots (va_wsS RX12 123 yX12_made wsX12_made) := goodIn_app (goodIn_of _ (by decide +kernel)) ggX12_findLots_X12_made
set_option maxRecDepth 20000 in
theorem ggX12_findLots_X12_isMade : GoodIn wsX12_findLots wsX12_isMade := goodIn_r _ [11, 1, 4, 5, 6, 7, 12, 13, 14, 15, 16, 17, 18, 19, 20, 21, 22, 23, 24, 25, 26, 27, 28, 29, 30, 31, 32, 33, 34, 35] (by decide +kernel) (by decide +kernel)
set_option maxRecDepth 20000 in
theorem gX12_findLots_X12_isMade : GoodIn wsX12_findLots (wsV RX12 179 RX12 yX12_isMade wsX12_isMade) := goodIn_app (goodIn_of _ (by decide +kernel)) ggX12_findLots_X12_isMade
theorem dX12_findLots_0 : decode cX12_findLots 0 = .ok (.iload_n 1, 1) := by decide +kernel
theorem dX12_findLots_1 : decode cX12_findLots 1 = .ok (.iload_n 2, 1) := by decide +kernel
theorem dX12_findLots_2 : decode cX12_findLots 2 = .ok (.invokestatic 123, 3) := by decide +kernel
theorem dX12_findLots_5 : decode cX12_findLots 5 = .ok (.istore 4, 2) := by decide +kernel
theorem dX12_findLots_7 : decode cX12_findLots 7 = .ok (.iload 4, 2) := by decide +kernel
theorem dX12_findLots_9 : decode cX12_findLots 9 = .ok (.iconst 4, 1) := by decide +kernel
theorem dX12_findLots_10 : decode cX12_findLots 10 = .ok (.if_icmp .eq 18, 3) := by decide +kernel
theorem dX12_findLots_13 : decode cX12_findLots 13 = .ok (.iload 4, 2) := by decide +kernel
theorem dX12_findLots_15 : decode cX12_findLots 15 = .ok (.iload_n 3, 1) := by decide +kernel
theorem dX12_findLots_16 : decode cX12_findLots 16 = .ok (.if_icmp .eq 12, 3) := by decide +kernel
theorem dX12_findLots_19 : decode cX12_findLots 19 = .ok (.aload_n 0, 1) := by decide +kernel
theorem dX12_findLots_20 : decode cX12_findLots 20 = .ok (.iload_n 1, 1) := by decide +kernel
theorem dX12_findLots_21 : decode cX12_findLots 21 = .ok (.iload_n 3, 1) := by decide +kernel
theorem dX12_findLots_22 : decode cX12_findLots 22 = .ok (.invokevirtual 179, 3) := by decide +kernel
theorem dX12_findLots_25 : decode cX12_findLots 25 = .ok (.ifCond .eq 5, 3) := by decide +kernel
theorem dX12_findLots_28 : decode cX12_findLots 28 = .ok (.iconst 0, 1) := by decide +kernel
theorem dX12_findLots_29 : decode cX12_findLots 29 = .ok (.ireturn, 1) := by decide +kernel
theorem dX12_findLots_30 : decode cX12_findLots 30 = .ok (.aload_n 0, 1) := by decide +kernel
theorem dX12_findLots_31 : decode cX12_findLots 31 = .ok (.getfield 9, 3) := by decide +kernel
theorem dX12_findLots_34 : decode cX12_findLots 34 = .ok (.bipush 7, 2) := by decide +kernel
theorem dX12_findLots_36 : decode cX12_findLots 36 = .ok (.iload_n 2, 1) := by decide +kernel
theorem dX12_findLots_37 : decode cX12_findLots 37 = .ok (.iadd, 1) := by decide +kernel
theorem dX12_findLots_38 : decode cX12_findLots 38 = .ok (.iaload, 1) := by decide +kernel
theorem dX12_findLots_39 : decode cX12_findLots 39 = .ok (.aload_n 0, 1) := by decide +kernel
theorem dX12_findLots_40 : decode cX12_findLots 40 = .ok (.getfield 9, 3) := by decide +kernel
theorem dX12_findLots_43 : decode cX12_findLots 43 = .ok (.bipush 15, 2) := by decide +kernel
theorem dX12_findLots_45 : decode cX12_findLots 45 = .ok (.iload_n 3, 1) := by decide +kernel
theorem dX12_findLots_46 : decode cX12_findLots 46 = .ok (.iadd, 1) := by decide +kernel
theorem dX12_findLots_47 : decode cX12_findLots 47 = .ok (.iaload, 1) := by decide +kernel
theorem dX12_findLots_48 : decode cX12_findLots 48 = .ok (.iadd, 1) := by decide +kernel
theorem dX12_findLots_49 : decode cX12_findLots 49 = .ok (.aload_n 0, 1) := by decide +kernel
theorem dX12_findLots_50 : decode cX12_findLots 50 = .ok (.getfield 9, 3) := by decide +kernel
theorem dX12_findLots_53 : decode cX12_findLots 53 = .ok (.bipush 19, 2) := by decide +kernel
theorem dX12_findLots_55 : decode cX12_findLots 55 = .ok (.iconst 4, 1) := by decide +kernel
theorem dX12_findLots_56 : decode cX12_findLots 56 = .ok (.iload_n 3, 1) := by decide +kernel
theorem dX12_findLots_57 : decode cX12_findLots 57 = .ok (.imul, 1) := by decide +kernel
theorem dX12_findLots_58 : decode cX12_findLots 58 = .ok (.iadd, 1) := by decide +kernel
theorem dX12_findLots_59 : decode cX12_findLots 59 = .ok (.iload_n 2, 1) := by decide +kernel
theorem dX12_findLots_60 : decode cX12_findLots 60 = .ok (.iadd, 1) := by decide +kernel
theorem dX12_findLots_61 : decode cX12_findLots 61 = .ok (.iaload, 1) := by decide +kernel
theorem dX12_findLots_62 : decode cX12_findLots 62 = .ok (.isub, 1) := by decide +kernel
theorem dX12_findLots_63 : decode cX12_findLots 63 = .ok (.aload_n 0, 1) := by decide +kernel
theorem dX12_findLots_64 : decode cX12_findLots 64 = .ok (.getfield 9, 3) := by decide +kernel
theorem dX12_findLots_67 : decode cX12_findLots 67 = .ok (.bipush 19, 2) := by decide +kernel
theorem dX12_findLots_69 : decode cX12_findLots 69 = .ok (.iconst 4, 1) := by decide +kernel
theorem dX12_findLots_70 : decode cX12_findLots 70 = .ok (.iload 4, 2) := by decide +kernel
theorem dX12_findLots_72 : decode cX12_findLots 72 = .ok (.imul, 1) := by decide +kernel
theorem dX12_findLots_73 : decode cX12_findLots 73 = .ok (.iadd, 1) := by decide +kernel
theorem dX12_findLots_74 : decode cX12_findLots 74 = .ok (.iload_n 2, 1) := by decide +kernel
theorem dX12_findLots_75 : decode cX12_findLots 75 = .ok (.iadd, 1) := by decide +kernel
theorem dX12_findLots_76 : decode cX12_findLots 76 = .ok (.iaload, 1) := by decide +kernel
theorem dX12_findLots_77 : decode cX12_findLots 77 = .ok (.iadd, 1) := by decide +kernel
theorem dX12_findLots_78 : decode cX12_findLots 78 = .ok (.aload_n 0, 1) := by decide +kernel
theorem dX12_findLots_79 : decode cX12_findLots 79 = .ok (.getfield 9, 3) := by decide +kernel
theorem dX12_findLots_82 : decode cX12_findLots 82 = .ok (.bipush 15, 2) := by decide +kernel
theorem dX12_findLots_84 : decode cX12_findLots 84 = .ok (.iload 4, 2) := by decide +kernel
theorem dX12_findLots_86 : decode cX12_findLots 86 = .ok (.iadd, 1) := by decide +kernel
theorem dX12_findLots_87 : decode cX12_findLots 87 = .ok (.iaload, 1) := by decide +kernel
theorem dX12_findLots_88 : decode cX12_findLots 88 = .ok (.isub, 1) := by decide +kernel
theorem dX12_findLots_89 : decode cX12_findLots 89 = .ok (.istore 5, 2) := by decide +kernel
theorem dX12_findLots_91 : decode cX12_findLots 91 = .ok (.aload_n 0, 1) := by decide +kernel
theorem dX12_findLots_92 : decode cX12_findLots 92 = .ok (.lconst 0, 1) := by decide +kernel
theorem dX12_findLots_93 : decode cX12_findLots 93 = .ok (.putfield 129, 3) := by decide +kernel
theorem dX12_findLots_96 : decode cX12_findLots 96 = .ok (.iconst 0, 1) := by decide +kernel
theorem dX12_findLots_97 : decode cX12_findLots 97 = .ok (.istore 6, 2) := by decide +kernel
theorem dX12_findLots_99 : decode cX12_findLots 99 = .ok (.iload 6, 2) := by decide +kernel
theorem dX12_findLots_101 : decode cX12_findLots 101 = .ok (.aload_n 0, 1) := by decide +kernel
theorem dX12_findLots_102 : decode cX12_findLots 102 = .ok (.getfield 9, 3) := by decide +kernel
theorem dX12_findLots_105 : decode cX12_findLots 105 = .ok (.iconst 0, 1) := by decide +kernel
theorem dX12_findLots_106 : decode cX12_findLots 106 = .ok (.iaload, 1) := by decide +kernel
theorem dX12_findLots_107 : decode cX12_findLots 107 = .ok (.if_icmp .ge 64, 3) := by decide +kernel
theorem dX12_findLots_110 : decode cX12_findLots 110 = .ok (.aload_n 0, 1) := by decide +kernel
theorem dX12_findLots_111 : decode cX12_findLots 111 = .ok (.dup, 1) := by decide +kernel
theorem dX12_findLots_112 : decode cX12_findLots 112 = .ok (.getfield 129, 3) := by decide +kernel
theorem dX12_findLots_115 : decode cX12_findLots 115 = .ok (.iload 6, 2) := by decide +kernel
theorem dX12_findLots_117 : decode cX12_findLots 117 = .ok (.iload_n 2, 1) := by decide +kernel
theorem dX12_findLots_118 : decode cX12_findLots 118 = .ok (.if_icmp .eq 42, 3) := by decide +kernel
theorem dX12_findLots_121 : decode cX12_findLots 121 = .ok (.iload_n 1, 1) := by decide +kernel
theorem dX12_findLots_122 : decode cX12_findLots 122 = .ok (.iload 6, 2) := by decide +kernel
theorem dX12_findLots_124 : decode cX12_findLots 124 = .ok (.invokestatic 123, 3) := by decide +kernel
theorem dX12_findLots_127 : decode cX12_findLots 127 = .ok (.iload 4, 2) := by decide +kernel
theorem dX12_findLots_129 : decode cX12_findLots 129 = .ok (.if_icmp .ne 31, 3) := by decide +kernel
theorem dX12_findLots_132 : decode cX12_findLots 132 = .ok (.aload_n 0, 1) := by decide +kernel
theorem dX12_findLots_133 : decode cX12_findLots 133 = .ok (.getfield 9, 3) := by decide +kernel
theorem dX12_findLots_136 : decode cX12_findLots 136 = .ok (.iconst 3, 1) := by decide +kernel
theorem dX12_findLots_137 : decode cX12_findLots 137 = .ok (.iload 6, 2) := by decide +kernel
theorem dX12_findLots_139 : decode cX12_findLots 139 = .ok (.iadd, 1) := by decide +kernel
theorem dX12_findLots_140 : decode cX12_findLots 140 = .ok (.iaload, 1) := by decide +kernel
theorem dX12_findLots_141 : decode cX12_findLots 141 = .ok (.i2l, 1) := by decide +kernel
theorem dX12_findLots_142 : decode cX12_findLots 142 = .ok (.aload_n 0, 1) := by decide +kernel
theorem dX12_findLots_143 : decode cX12_findLots 143 = .ok (.getfield 9, 3) := by decide +kernel
theorem dX12_findLots_146 : decode cX12_findLots 146 = .ok (.bipush 7, 2) := by decide +kernel
theorem dX12_findLots_148 : decode cX12_findLots 148 = .ok (.iload 6, 2) := by decide +kernel
theorem dX12_findLots_150 : decode cX12_findLots 150 = .ok (.iadd, 1) := by decide +kernel
theorem dX12_findLots_151 : decode cX12_findLots 151 = .ok (.iaload, 1) := by decide +kernel
theorem dX12_findLots_152 : decode cX12_findLots 152 = .ok (.iload 5, 2) := by decide +kernel
theorem dX12_findLots_154 : decode cX12_findLots 154 = .ok (.isub, 1) := by decide +kernel
theorem dX12_findLots_155 : decode cX12_findLots 155 = .ok (.i2l, 1) := by decide +kernel
theorem dX12_findLots_156 : decode cX12_findLots 156 = .ok (.lmul, 1) := by decide +kernel
theorem dX12_findLots_157 : decode cX12_findLots 157 = .ok (.goto 4, 3) := by decide +kernel
theorem dX12_findLots_160 : decode cX12_findLots 160 = .ok (.lconst 0, 1) := by decide +kernel
theorem dX12_findLots_161 : decode cX12_findLots 161 = .ok (.ladd, 1) := by decide +kernel
theorem dX12_findLots_162 : decode cX12_findLots 162 = .ok (.putfield 129, 3) := by decide +kernel
theorem dX12_findLots_165 : decode cX12_findLots 165 = .ok (.iinc 6 1, 3) := by decide +kernel
theorem dX12_findLots_168 : decode cX12_findLots 168 = .ok (.goto (-69), 3) := by decide +kernel
theorem dX12_findLots_171 : decode cX12_findLots 171 = .ok (.aload_n 0, 1) := by decide +kernel
theorem dX12_findLots_172 : decode cX12_findLots 172 = .ok (.aload_n 0, 1) := by decide +kernel
theorem dX12_findLots_173 : decode cX12_findLots 173 = .ok (.getfield 9, 3) := by decide +kernel
theorem dX12_findLots_176 : decode cX12_findLots 176 = .ok (.iconst 3, 1) := by decide +kernel
theorem dX12_findLots_177 : decode cX12_findLots 177 = .ok (.iload_n 2, 1) := by decide +kernel
theorem dX12_findLots_178 : decode cX12_findLots 178 = .ok (.iadd, 1) := by decide +kernel
theorem dX12_findLots_179 : decode cX12_findLots 179 = .ok (.iaload, 1) := by decide +kernel
theorem dX12_findLots_180 : decode cX12_findLots 180 = .ok (.i2l, 1) := by decide +kernel
theorem dX12_findLots_181 : decode cX12_findLots 181 = .ok (.iload 5, 2) := by decide +kernel
theorem dX12_findLots_183 : decode cX12_findLots 183 = .ok (.aload_n 0, 1) := by decide +kernel
theorem dX12_findLots_184 : decode cX12_findLots 184 = .ok (.getfield 9, 3) := by decide +kernel
theorem dX12_findLots_187 : decode cX12_findLots 187 = .ok (.bipush 7, 2) := by decide +kernel
theorem dX12_findLots_189 : decode cX12_findLots 189 = .ok (.iload_n 2, 1) := by decide +kernel
theorem dX12_findLots_190 : decode cX12_findLots 190 = .ok (.iadd, 1) := by decide +kernel
theorem dX12_findLots_191 : decode cX12_findLots 191 = .ok (.iaload, 1) := by decide +kernel
theorem dX12_findLots_192 : decode cX12_findLots 192 = .ok (.isub, 1) := by decide +kernel
theorem dX12_findLots_193 : decode cX12_findLots 193 = .ok (.i2l, 1) := by decide +kernel
theorem dX12_findLots_194 : decode cX12_findLots 194 = .ok (.lmul, 1) := by decide +kernel
theorem dX12_findLots_195 : decode cX12_findLots 195 = .ok (.putfield 133, 3) := by decide +kernel
theorem dX12_findLots_198 : decode cX12_findLots 198 = .ok (.aload_n 0, 1) := by decide +kernel
theorem dX12_findLots_199 : decode cX12_findLots 199 = .ok (.getfield 133, 3) := by decide +kernel
theorem dX12_findLots_202 : decode cX12_findLots 202 = .ok (.lconst 0, 1) := by decide +kernel
theorem dX12_findLots_203 : decode cX12_findLots 203 = .ok (.lcmp, 1) := by decide +kernel
theorem dX12_findLots_204 : decode cX12_findLots 204 = .ok (.ifCond .ge 21, 3) := by decide +kernel
theorem dX12_findLots_207 : decode cX12_findLots 207 = .ok (.aload_n 0, 1) := by decide +kernel
theorem dX12_findLots_208 : decode cX12_findLots 208 = .ok (.aload_n 0, 1) := by decide +kernel
theorem dX12_findLots_209 : decode cX12_findLots 209 = .ok (.getfield 129, 3) := by decide +kernel
theorem dX12_findLots_212 : decode cX12_findLots 212 = .ok (.lneg, 1) := by decide +kernel
theorem dX12_findLots_213 : decode cX12_findLots 213 = .ok (.putfield 129, 3) := by decide +kernel
theorem dX12_findLots_216 : decode cX12_findLots 216 = .ok (.aload_n 0, 1) := by decide +kernel
theorem dX12_findLots_217 : decode cX12_findLots 217 = .ok (.aload_n 0, 1) := by decide +kernel
theorem dX12_findLots_218 : decode cX12_findLots 218 = .ok (.getfield 133, 3) := by decide +kernel
theorem dX12_findLots_221 : decode cX12_findLots 221 = .ok (.lneg, 1) := by decide +kernel
theorem dX12_findLots_222 : decode cX12_findLots 222 = .ok (.putfield 133, 3) := by decide +kernel
theorem dX12_findLots_225 : decode cX12_findLots 225 = .ok (.aload_n 0, 1) := by decide +kernel
theorem dX12_findLots_226 : decode cX12_findLots 226 = .ok (.getfield 129, 3) := by decide +kernel
theorem dX12_findLots_229 : decode cX12_findLots 229 = .ok (.lconst 0, 1) := by decide +kernel
theorem dX12_findLots_230 : decode cX12_findLots 230 = .ok (.lcmp, 1) := by decide +kernel
theorem dX12_findLots_231 : decode cX12_findLots 231 = .ok (.ifCond .le 19, 3) := by decide +kernel
theorem dX12_findLots_234 : decode cX12_findLots 234 = .ok (.aload_n 0, 1) := by decide +kernel
theorem dX12_findLots_235 : decode cX12_findLots 235 = .ok (.getfield 129, 3) := by decide +kernel
theorem dX12_findLots_238 : decode cX12_findLots 238 = .ok (.aload_n 0, 1) := by decide +kernel
theorem dX12_findLots_239 : decode cX12_findLots 239 = .ok (.getfield 133, 3) := by decide +kernel
theorem dX12_findLots_242 : decode cX12_findLots 242 = .ok (.lcmp, 1) := by decide +kernel
theorem dX12_findLots_243 : decode cX12_findLots 243 = .ok (.ifCond .ge 7, 3) := by decide +kernel
theorem dX12_findLots_246 : decode cX12_findLots 246 = .ok (.iconst 1, 1) := by decide +kernel
theorem dX12_findLots_247 : decode cX12_findLots 247 = .ok (.goto 4, 3) := by decide +kernel
theorem dX12_findLots_250 : decode cX12_findLots 250 = .ok (.iconst 0, 1) := by decide +kernel
theorem dX12_findLots_251 : decode cX12_findLots 251 = .ok (.ireturn, 1) := by decide +kernel
set_option maxRecDepth 20000 in
theorem ggX12_lots_X12_isOpen : GoodIn wsX12_lots wsX12_isOpen := goodIn_r _ [8, 9, 47, 48, 49, 50, 51, 52, 53, 54, 55, 56, 57, 58, 59, 60, 61, 62, 63, 64, 65, 66, 67, 68, 69, 70] (by decide +kernel) (by decide +kernel)
set_option maxRecDepth 20000 in
theorem gX12_lots_X12_isOpen : GoodIn wsX12_lots (wsV RX12 102 RX12 yX12_isOpen wsX12_isOpen) := goodIn_app (goodIn_of _ (by decide +kernel)) ggX12_lots_X12_isOpen
set_option maxRecDepth 20000 in
theorem ggX12_lots_X12_isFit : GoodIn wsX12_lots wsX12_isFit := goodIn_r _ [13, 9, 14, 15, 16, 17, 7, 18, 19, 20, 21, 22, 23, 24, 47, 48, 49, 50, 51, 52, 53, 54, 55, 56, 57, 58, 59, 60, 61, 62, 63, 64, 65, 66, 67, 68, 69, 70] (by decide +kernel) (by decide +kernel)
set_option maxRecDepth 20000 in
theorem gX12_lots_X12_isFit : GoodIn wsX12_lots (wsV RX12 154 RX12 yX12_isFit wsX12_isFit) := goodIn_app (goodIn_of _ (by decide +kernel)) ggX12_lots_X12_isFit
set_option maxRecDepth 20000 in
theorem ggX12_lots_X12_isSort : GoodIn wsX12_lots wsX12_isSort := goodIn_r _ [28, 9, 19, 20, 7, 21, 47, 48, 49, 50, 51, 52, 53, 54, 55, 56, 57, 58, 59, 60, 61, 62, 63, 64, 65, 66, 67, 68, 69, 70] (by decide +kernel) (by decide +kernel)
set_option maxRecDepth 20000 in
theorem gX12_lots_X12_isSort : GoodIn wsX12_lots (wsV RX12 105 RX12 yX12_isSort wsX12_isSort) := goodIn_app (goodIn_of _ (by decide +kernel)) ggX12_lots_X12_isSort
set_option maxRecDepth 20000 in
theorem ggX12_lots_X12_isMark : GoodIn wsX12_lots wsX12_isMark := goodIn_r _ [32, 9, 19, 20, 7, 21, 47, 48, 49, 50, 51, 52, 53, 54, 55, 56, 57, 58, 59, 60, 61, 62, 63, 64, 65, 66, 67, 68, 69, 70] (by decide +kernel) (by decide +kernel)
set_option maxRecDepth 20000 in
theorem gX12_lots_X12_isMark : GoodIn wsX12_lots (wsV RX12 110 RX12 yX12_isMark wsX12_isMark) := goodIn_app (goodIn_of _ (by decide +kernel)) ggX12_lots_X12_isMark
set_option maxRecDepth 20000 in
theorem ggX12_lots_X12_isIn : GoodIn wsX12_lots wsX12_isIn := goodIn_r _ [21] (by decide +kernel) (by decide +kernel)
set_option maxRecDepth 20000 in
theorem gX12_lots_X12_isIn : GoodIn wsX12_lots (va_wsS RX12 50 yX12_isIn wsX12_isIn) := goodIn_app (goodIn_of _ (by decide +kernel)) ggX12_lots_X12_isIn
set_option maxRecDepth 20000 in
theorem ggX12_lots_X12_findLots : GoodIn wsX12_lots wsX12_findLots := goodIn_r _ [36, 9, 2, 3, 22, 23, 7, 24, 37, 38, 39, 40, 47, 48, 49, 50, 51, 52, 53, 54, 55, 56, 57, 58, 59, 60, 61, 62, 63, 64, 65, 66, 67, 68, 69, 70] (by decide +kernel) (by decide +kernel)
set_option maxRecDepth 20000 in
theorem gX12_lots_X12_findLots : GoodIn wsX12_lots (wsV RX12 187 RX12 yX12_findLots wsX12_findLots) := goodIn_app (goodIn_of _ (by decide +kernel)) ggX12_lots_X12_findLots
set_option maxRecDepth 20000 in
theorem ggX12_lots_X12_told : GoodIn wsX12_lots wsX12_told := goodIn_r _ [43, 44, 45, 7, 46] (by decide +kernel) (by decide +kernel)
set_option maxRecDepth 20000 in
theorem gX12_lots_X12_told : GoodIn wsX12_lots (va_wsS RX12 159 yX12_told wsX12_told) := goodIn_app (goodIn_of _ (by decide +kernel)) ggX12_lots_X12_told
theorem dX12_lots_0 : decode cX12_lots 0 = .ok (.aload_n 0, 1) := by decide +kernel
theorem dX12_lots_1 : decode cX12_lots 1 = .ok (.invokevirtual 102, 3) := by decide +kernel
theorem dX12_lots_4 : decode cX12_lots 4 = .ok (.ifCond .eq 48, 3) := by decide +kernel
theorem dX12_lots_7 : decode cX12_lots 7 = .ok (.aload_n 0, 1) := by decide +kernel
theorem dX12_lots_8 : decode cX12_lots 8 = .ok (.iload_n 1, 1) := by decide +kernel
theorem dX12_lots_9 : decode cX12_lots 9 = .ok (.invokevirtual 154, 3) := by decide +kernel
theorem dX12_lots_12 : decode cX12_lots 12 = .ok (.ifCond .eq 40, 3) := by decide +kernel
theorem dX12_lots_15 : decode cX12_lots 15 = .ok (.aload_n 0, 1) := by decide +kernel
theorem dX12_lots_16 : decode cX12_lots 16 = .ok (.iload_n 2, 1) := by decide +kernel
theorem dX12_lots_17 : decode cX12_lots 17 = .ok (.invokevirtual 105, 3) := by decide +kernel
theorem dX12_lots_20 : decode cX12_lots 20 = .ok (.ifCond .eq 32, 3) := by decide +kernel
theorem dX12_lots_23 : decode cX12_lots 23 = .ok (.aload_n 0, 1) := by decide +kernel
theorem dX12_lots_24 : decode cX12_lots 24 = .ok (.iload_n 3, 1) := by decide +kernel
theorem dX12_lots_25 : decode cX12_lots 25 = .ok (.invokevirtual 110, 3) := by decide +kernel
theorem dX12_lots_28 : decode cX12_lots 28 = .ok (.ifCond .eq 24, 3) := by decide +kernel
theorem dX12_lots_31 : decode cX12_lots 31 = .ok (.iload 4, 2) := by decide +kernel
theorem dX12_lots_33 : decode cX12_lots 33 = .ok (.i2l, 1) := by decide +kernel
theorem dX12_lots_34 : decode cX12_lots 34 = .ok (.lconst 0, 1) := by decide +kernel
theorem dX12_lots_35 : decode cX12_lots 35 = .ok (.lconst 1, 1) := by decide +kernel
theorem dX12_lots_36 : decode cX12_lots 36 = .ok (.invokestatic 50, 3) := by decide +kernel
theorem dX12_lots_39 : decode cX12_lots 39 = .ok (.ifCond .eq 13, 3) := by decide +kernel
theorem dX12_lots_42 : decode cX12_lots 42 = .ok (.aload_n 0, 1) := by decide +kernel
theorem dX12_lots_43 : decode cX12_lots 43 = .ok (.iload_n 1, 1) := by decide +kernel
theorem dX12_lots_44 : decode cX12_lots 44 = .ok (.iload_n 2, 1) := by decide +kernel
theorem dX12_lots_45 : decode cX12_lots 45 = .ok (.iload_n 3, 1) := by decide +kernel
theorem dX12_lots_46 : decode cX12_lots 46 = .ok (.invokevirtual 187, 3) := by decide +kernel
theorem dX12_lots_49 : decode cX12_lots 49 = .ok (.ifCond .ne 7, 3) := by decide +kernel
theorem dX12_lots_52 : decode cX12_lots 52 = .ok (.ldc2_w 157, 3) := by decide +kernel
theorem dX12_lots_55 : decode cX12_lots 55 = .ok (.lreturn, 1) := by decide +kernel
theorem dX12_lots_56 : decode cX12_lots 56 = .ok (.aload_n 0, 1) := by decide +kernel
theorem dX12_lots_57 : decode cX12_lots 57 = .ok (.getfield 129, 3) := by decide +kernel
theorem dX12_lots_60 : decode cX12_lots 60 = .ok (.aload_n 0, 1) := by decide +kernel
theorem dX12_lots_61 : decode cX12_lots 61 = .ok (.getfield 133, 3) := by decide +kernel
theorem dX12_lots_64 : decode cX12_lots 64 = .ok (.iload 4, 2) := by decide +kernel
theorem dX12_lots_66 : decode cX12_lots 66 = .ok (.invokestatic 159, 3) := by decide +kernel
theorem dX12_lots_69 : decode cX12_lots 69 = .ok (.lreturn, 1) := by decide +kernel
set_option maxRecDepth 20000 in
theorem ggX12_standing_X12_isOpen : GoodIn wsX12_standing wsX12_isOpen := goodIn_r _ [6, 1, 32, 33, 34, 35, 36, 37, 38, 39, 40, 41, 42, 43, 44, 45, 46, 47, 48, 49, 50, 51, 52, 53, 54, 55] (by decide +kernel) (by decide +kernel)
set_option maxRecDepth 20000 in
theorem gX12_standing_X12_isOpen : GoodIn wsX12_standing (wsV RX12 102 RX12 yX12_isOpen wsX12_isOpen) := goodIn_app (goodIn_of _ (by decide +kernel)) ggX12_standing_X12_isOpen
set_option maxRecDepth 20000 in
theorem ggX12_standing_X12_fits : GoodIn wsX12_standing wsX12_fits := goodIn_r _ [10, 1, 32, 33, 34, 35, 36, 37, 38, 39, 40, 41, 42, 43, 44, 45, 46, 47, 48, 49, 50, 51, 52, 53, 54, 55] (by decide +kernel) (by decide +kernel)
set_option maxRecDepth 20000 in
theorem gX12_standing_X12_fits : GoodIn wsX12_standing (wsV RX12 120 RX12 yX12_fits wsX12_fits) := goodIn_app (goodIn_of _ (by decide +kernel)) ggX12_standing_X12_fits
set_option maxRecDepth 20000 in
theorem ggX12_standing_X12_isFit : GoodIn wsX12_standing wsX12_isFit := goodIn_r _ [14, 1, 15, 7, 8, 9, 5, 10, 16, 17, 18, 19, 20, 21, 32, 33, 34, 35, 36, 37, 38, 39, 40, 41, 42, 43, 44, 45, 46, 47, 48, 49, 50, 51, 52, 53, 54, 55] (by decide +kernel) (by decide +kernel)
set_option maxRecDepth 20000 in
theorem gX12_standing_X12_isFit : GoodIn wsX12_standing (wsV RX12 154 RX12 yX12_isFit wsX12_isFit) := goodIn_app (goodIn_of _ (by decide +kernel)) ggX12_standing_X12_isFit
set_option maxRecDepth 20000 in
theorem ggX12_standing_X12_findLots : GoodIn wsX12_standing wsX12_findLots := goodIn_r _ [25, 1, 26, 27, 19, 20, 5, 21, 28, 29, 30, 31, 32, 33, 34, 35, 36, 37, 38, 39, 40, 41, 42, 43, 44, 45, 46, 47, 48, 49, 50, 51, 52, 53, 54, 55] (by decide +kernel) (by decide +kernel)
set_option maxRecDepth 20000 in
theorem gX12_standing_X12_findLots : GoodIn wsX12_standing (wsV RX12 187 RX12 yX12_findLots wsX12_findLots) := goodIn_app (goodIn_of _ (by decide +kernel)) ggX12_standing_X12_findLots
theorem dX12_standing_0 : decode cX12_standing 0 = .ok (.aload_n 0, 1) := by decide +kernel
theorem dX12_standing_1 : decode cX12_standing 1 = .ok (.invokevirtual 102, 3) := by decide +kernel
theorem dX12_standing_4 : decode cX12_standing 4 = .ok (.ifCond .ne 6, 3) := by decide +kernel
theorem dX12_standing_7 : decode cX12_standing 7 = .ok (.bipush (-3), 2) := by decide +kernel
theorem dX12_standing_9 : decode cX12_standing 9 = .ok (.ireturn, 1) := by decide +kernel
theorem dX12_standing_10 : decode cX12_standing 10 = .ok (.iconst 0, 1) := by decide +kernel
theorem dX12_standing_11 : decode cX12_standing 11 = .ok (.istore_n 1, 1) := by decide +kernel
theorem dX12_standing_12 : decode cX12_standing 12 = .ok (.iconst 0, 1) := by decide +kernel
theorem dX12_standing_13 : decode cX12_standing 13 = .ok (.istore_n 2, 1) := by decide +kernel
theorem dX12_standing_14 : decode cX12_standing 14 = .ok (.iload_n 2, 1) := by decide +kernel
theorem dX12_standing_15 : decode cX12_standing 15 = .ok (.aload_n 0, 1) := by decide +kernel
theorem dX12_standing_16 : decode cX12_standing 16 = .ok (.invokevirtual 120, 3) := by decide +kernel
theorem dX12_standing_19 : decode cX12_standing 19 = .ok (.if_icmp .ge 74, 3) := by decide +kernel
theorem dX12_standing_22 : decode cX12_standing 22 = .ok (.iconst 0, 1) := by decide +kernel
theorem dX12_standing_23 : decode cX12_standing 23 = .ok (.istore_n 3, 1) := by decide +kernel
theorem dX12_standing_24 : decode cX12_standing 24 = .ok (.iload_n 3, 1) := by decide +kernel
theorem dX12_standing_25 : decode cX12_standing 25 = .ok (.aload_n 0, 1) := by decide +kernel
theorem dX12_standing_26 : decode cX12_standing 26 = .ok (.getfield 9, 3) := by decide +kernel
theorem dX12_standing_29 : decode cX12_standing 29 = .ok (.iconst 0, 1) := by decide +kernel
theorem dX12_standing_30 : decode cX12_standing 30 = .ok (.iaload, 1) := by decide +kernel
theorem dX12_standing_31 : decode cX12_standing 31 = .ok (.if_icmp .ge 56, 3) := by decide +kernel
theorem dX12_standing_34 : decode cX12_standing 34 = .ok (.aload_n 0, 1) := by decide +kernel
theorem dX12_standing_35 : decode cX12_standing 35 = .ok (.iload_n 2, 1) := by decide +kernel
theorem dX12_standing_36 : decode cX12_standing 36 = .ok (.invokevirtual 154, 3) := by decide +kernel
theorem dX12_standing_39 : decode cX12_standing 39 = .ok (.ifCond .eq 48, 3) := by decide +kernel
theorem dX12_standing_42 : decode cX12_standing 42 = .ok (.iconst 0, 1) := by decide +kernel
theorem dX12_standing_43 : decode cX12_standing 43 = .ok (.istore 4, 2) := by decide +kernel
theorem dX12_standing_45 : decode cX12_standing 45 = .ok (.iload 4, 2) := by decide +kernel
theorem dX12_standing_47 : decode cX12_standing 47 = .ok (.aload_n 0, 1) := by decide +kernel
theorem dX12_standing_48 : decode cX12_standing 48 = .ok (.getfield 9, 3) := by decide +kernel
theorem dX12_standing_51 : decode cX12_standing 51 = .ok (.iconst 1, 1) := by decide +kernel
theorem dX12_standing_52 : decode cX12_standing 52 = .ok (.iaload, 1) := by decide +kernel
theorem dX12_standing_53 : decode cX12_standing 53 = .ok (.if_icmp .ge 28, 3) := by decide +kernel
theorem dX12_standing_56 : decode cX12_standing 56 = .ok (.iload_n 1, 1) := by decide +kernel
theorem dX12_standing_57 : decode cX12_standing 57 = .ok (.aload_n 0, 1) := by decide +kernel
theorem dX12_standing_58 : decode cX12_standing 58 = .ok (.iload_n 2, 1) := by decide +kernel
theorem dX12_standing_59 : decode cX12_standing 59 = .ok (.iload_n 3, 1) := by decide +kernel
theorem dX12_standing_60 : decode cX12_standing 60 = .ok (.iload 4, 2) := by decide +kernel
theorem dX12_standing_62 : decode cX12_standing 62 = .ok (.invokevirtual 187, 3) := by decide +kernel
theorem dX12_standing_65 : decode cX12_standing 65 = .ok (.ifCond .eq 7, 3) := by decide +kernel
theorem dX12_standing_68 : decode cX12_standing 68 = .ok (.iconst 1, 1) := by decide +kernel
theorem dX12_standing_69 : decode cX12_standing 69 = .ok (.goto 4, 3) := by decide +kernel
theorem dX12_standing_72 : decode cX12_standing 72 = .ok (.iconst 0, 1) := by decide +kernel
theorem dX12_standing_73 : decode cX12_standing 73 = .ok (.iadd, 1) := by decide +kernel
theorem dX12_standing_74 : decode cX12_standing 74 = .ok (.istore_n 1, 1) := by decide +kernel
theorem dX12_standing_75 : decode cX12_standing 75 = .ok (.iinc 4 1, 3) := by decide +kernel
theorem dX12_standing_78 : decode cX12_standing 78 = .ok (.goto (-33), 3) := by decide +kernel
theorem dX12_standing_81 : decode cX12_standing 81 = .ok (.iinc 3 1, 3) := by decide +kernel
theorem dX12_standing_84 : decode cX12_standing 84 = .ok (.goto (-60), 3) := by decide +kernel
theorem dX12_standing_87 : decode cX12_standing 87 = .ok (.iinc 2 1, 3) := by decide +kernel
theorem dX12_standing_90 : decode cX12_standing 90 = .ok (.goto (-76), 3) := by decide +kernel
theorem dX12_standing_93 : decode cX12_standing 93 = .ok (.iload_n 1, 1) := by decide +kernel
theorem dX12_standing_94 : decode cX12_standing 94 = .ok (.ireturn, 1) := by decide +kernel
set_option maxRecDepth 20000 in
theorem ggX12_wasteOf_X12_made : GoodIn wsX12_wasteOf wsX12_made := goodIn_r _ [5] (by decide +kernel) (by decide +kernel)
set_option maxRecDepth 20000 in
theorem gX12_wasteOf_X12_made : GoodIn wsX12_wasteOf (va_wsS RX12 123 yX12_made wsX12_made) := goodIn_app (goodIn_of _ (by decide +kernel)) ggX12_wasteOf_X12_made
theorem dX12_wasteOf_0 : decode cX12_wasteOf 0 = .ok (.iconst 0, 1) := by decide +kernel
theorem dX12_wasteOf_1 : decode cX12_wasteOf 1 = .ok (.istore_n 2, 1) := by decide +kernel
theorem dX12_wasteOf_2 : decode cX12_wasteOf 2 = .ok (.iconst 0, 1) := by decide +kernel
theorem dX12_wasteOf_3 : decode cX12_wasteOf 3 = .ok (.istore_n 3, 1) := by decide +kernel
theorem dX12_wasteOf_4 : decode cX12_wasteOf 4 = .ok (.iload_n 3, 1) := by decide +kernel
theorem dX12_wasteOf_5 : decode cX12_wasteOf 5 = .ok (.aload_n 0, 1) := by decide +kernel
theorem dX12_wasteOf_6 : decode cX12_wasteOf 6 = .ok (.getfield 9, 3) := by decide +kernel
theorem dX12_wasteOf_9 : decode cX12_wasteOf 9 = .ok (.iconst 0, 1) := by decide +kernel
theorem dX12_wasteOf_10 : decode cX12_wasteOf 10 = .ok (.iaload, 1) := by decide +kernel
theorem dX12_wasteOf_11 : decode cX12_wasteOf 11 = .ok (.if_icmp .ge 51, 3) := by decide +kernel
theorem dX12_wasteOf_14 : decode cX12_wasteOf 14 = .ok (.iload_n 2, 1) := by decide +kernel
theorem dX12_wasteOf_15 : decode cX12_wasteOf 15 = .ok (.iload_n 1, 1) := by decide +kernel
theorem dX12_wasteOf_16 : decode cX12_wasteOf 16 = .ok (.iload_n 3, 1) := by decide +kernel
theorem dX12_wasteOf_17 : decode cX12_wasteOf 17 = .ok (.invokestatic 123, 3) := by decide +kernel
theorem dX12_wasteOf_20 : decode cX12_wasteOf 20 = .ok (.iconst 4, 1) := by decide +kernel
theorem dX12_wasteOf_21 : decode cX12_wasteOf 21 = .ok (.if_icmp .ne 7, 3) := by decide +kernel
theorem dX12_wasteOf_24 : decode cX12_wasteOf 24 = .ok (.iconst 0, 1) := by decide +kernel
theorem dX12_wasteOf_25 : decode cX12_wasteOf 25 = .ok (.goto 29, 3) := by decide +kernel
theorem dX12_wasteOf_28 : decode cX12_wasteOf 28 = .ok (.aload_n 0, 1) := by decide +kernel
theorem dX12_wasteOf_29 : decode cX12_wasteOf 29 = .ok (.getfield 9, 3) := by decide +kernel
theorem dX12_wasteOf_32 : decode cX12_wasteOf 32 = .ok (.iconst 3, 1) := by decide +kernel
theorem dX12_wasteOf_33 : decode cX12_wasteOf 33 = .ok (.iload_n 3, 1) := by decide +kernel
theorem dX12_wasteOf_34 : decode cX12_wasteOf 34 = .ok (.iadd, 1) := by decide +kernel
theorem dX12_wasteOf_35 : decode cX12_wasteOf 35 = .ok (.iaload, 1) := by decide +kernel
theorem dX12_wasteOf_36 : decode cX12_wasteOf 36 = .ok (.aload_n 0, 1) := by decide +kernel
theorem dX12_wasteOf_37 : decode cX12_wasteOf 37 = .ok (.getfield 9, 3) := by decide +kernel
theorem dX12_wasteOf_40 : decode cX12_wasteOf 40 = .ok (.bipush 19, 2) := by decide +kernel
theorem dX12_wasteOf_42 : decode cX12_wasteOf 42 = .ok (.iconst 4, 1) := by decide +kernel
theorem dX12_wasteOf_43 : decode cX12_wasteOf 43 = .ok (.iload_n 1, 1) := by decide +kernel
theorem dX12_wasteOf_44 : decode cX12_wasteOf 44 = .ok (.iload_n 3, 1) := by decide +kernel
theorem dX12_wasteOf_45 : decode cX12_wasteOf 45 = .ok (.invokestatic 123, 3) := by decide +kernel
theorem dX12_wasteOf_48 : decode cX12_wasteOf 48 = .ok (.imul, 1) := by decide +kernel
theorem dX12_wasteOf_49 : decode cX12_wasteOf 49 = .ok (.iadd, 1) := by decide +kernel
theorem dX12_wasteOf_50 : decode cX12_wasteOf 50 = .ok (.iload_n 3, 1) := by decide +kernel
theorem dX12_wasteOf_51 : decode cX12_wasteOf 51 = .ok (.iadd, 1) := by decide +kernel
theorem dX12_wasteOf_52 : decode cX12_wasteOf 52 = .ok (.iaload, 1) := by decide +kernel
theorem dX12_wasteOf_53 : decode cX12_wasteOf 53 = .ok (.imul, 1) := by decide +kernel
theorem dX12_wasteOf_54 : decode cX12_wasteOf 54 = .ok (.iadd, 1) := by decide +kernel
theorem dX12_wasteOf_55 : decode cX12_wasteOf 55 = .ok (.istore_n 2, 1) := by decide +kernel
theorem dX12_wasteOf_56 : decode cX12_wasteOf 56 = .ok (.iinc 3 1, 3) := by decide +kernel
theorem dX12_wasteOf_59 : decode cX12_wasteOf 59 = .ok (.goto (-55), 3) := by decide +kernel
theorem dX12_wasteOf_62 : decode cX12_wasteOf 62 = .ok (.iload_n 2, 1) := by decide +kernel
theorem dX12_wasteOf_63 : decode cX12_wasteOf 63 = .ok (.ireturn, 1) := by decide +kernel
set_option maxRecDepth 20000 in
theorem ggX12_waste_X12_isOpen : GoodIn wsX12_waste wsX12_isOpen := goodIn_r _ [5, 6, 26, 27, 28, 29, 30, 31, 32, 33, 34, 35, 36, 37, 38, 39, 40, 41, 42, 43, 44, 45, 46, 47, 48, 49] (by decide +kernel) (by decide +kernel)
set_option maxRecDepth 20000 in
theorem gX12_waste_X12_isOpen : GoodIn wsX12_waste (wsV RX12 102 RX12 yX12_isOpen wsX12_isOpen) := goodIn_app (goodIn_of _ (by decide +kernel)) ggX12_waste_X12_isOpen
set_option maxRecDepth 20000 in
theorem ggX12_waste_X12_isFit : GoodIn wsX12_waste wsX12_isFit := goodIn_r _ [10, 6, 11, 12, 13, 14, 4, 15, 16, 17, 18, 19, 20, 21, 26, 27, 28, 29, 30, 31, 32, 33, 34, 35, 36, 37, 38, 39, 40, 41, 42, 43, 44, 45, 46, 47, 48, 49] (by decide +kernel) (by decide +kernel)
set_option maxRecDepth 20000 in
theorem gX12_waste_X12_isFit : GoodIn wsX12_waste (wsV RX12 154 RX12 yX12_isFit wsX12_isFit) := goodIn_app (goodIn_of _ (by decide +kernel)) ggX12_waste_X12_isFit
set_option maxRecDepth 20000 in
theorem ggX12_waste_X12_wasteOf : GoodIn wsX12_waste wsX12_wasteOf := goodIn_r _ [25, 6, 19, 20, 4, 21, 26, 27, 28, 29, 30, 31, 32, 33, 34, 35, 36, 37, 38, 39, 40, 41, 42, 43, 44, 45, 46, 47, 48, 49] (by decide +kernel) (by decide +kernel)
set_option maxRecDepth 20000 in
theorem gX12_waste_X12_wasteOf : GoodIn wsX12_waste (wsV RX12 190 RX12 yX12_wasteOf wsX12_wasteOf) := goodIn_app (goodIn_of _ (by decide +kernel)) ggX12_waste_X12_wasteOf
theorem dX12_waste_0 : decode cX12_waste 0 = .ok (.aload_n 0, 1) := by decide +kernel
theorem dX12_waste_1 : decode cX12_waste 1 = .ok (.invokevirtual 102, 3) := by decide +kernel
theorem dX12_waste_4 : decode cX12_waste 4 = .ok (.ifCond .ne 8, 3) := by decide +kernel
theorem dX12_waste_7 : decode cX12_waste 7 = .ok (.bipush (-3), 2) := by decide +kernel
theorem dX12_waste_9 : decode cX12_waste 9 = .ok (.goto 20, 3) := by decide +kernel
theorem dX12_waste_12 : decode cX12_waste 12 = .ok (.aload_n 0, 1) := by decide +kernel
theorem dX12_waste_13 : decode cX12_waste 13 = .ok (.iload_n 1, 1) := by decide +kernel
theorem dX12_waste_14 : decode cX12_waste 14 = .ok (.invokevirtual 154, 3) := by decide +kernel
theorem dX12_waste_17 : decode cX12_waste 17 = .ok (.ifCond .eq 11, 3) := by decide +kernel
theorem dX12_waste_20 : decode cX12_waste 20 = .ok (.aload_n 0, 1) := by decide +kernel
theorem dX12_waste_21 : decode cX12_waste 21 = .ok (.iload_n 1, 1) := by decide +kernel
theorem dX12_waste_22 : decode cX12_waste 22 = .ok (.invokevirtual 190, 3) := by decide +kernel
theorem dX12_waste_25 : decode cX12_waste 25 = .ok (.goto 4, 3) := by decide +kernel
theorem dX12_waste_28 : decode cX12_waste 28 = .ok (.iconst (-1), 1) := by decide +kernel
theorem dX12_waste_29 : decode cX12_waste 29 = .ok (.ireturn, 1) := by decide +kernel
set_option maxRecDepth 20000 in
theorem ggX12_isApart_X12_made : GoodIn wsX12_isApart wsX12_made := goodIn_r _ [5] (by decide +kernel) (by decide +kernel)
set_option maxRecDepth 20000 in
theorem gX12_isApart_X12_made : GoodIn wsX12_isApart (va_wsS RX12 123 yX12_made wsX12_made) := goodIn_app (goodIn_of _ (by decide +kernel)) ggX12_isApart_X12_made
theorem dX12_isApart_0 : decode cX12_isApart 0 = .ok (.iconst 0, 1) := by decide +kernel
theorem dX12_isApart_1 : decode cX12_isApart 1 = .ok (.istore_n 2, 1) := by decide +kernel
theorem dX12_isApart_2 : decode cX12_isApart 2 = .ok (.iconst 0, 1) := by decide +kernel
theorem dX12_isApart_3 : decode cX12_isApart 3 = .ok (.istore_n 3, 1) := by decide +kernel
theorem dX12_isApart_4 : decode cX12_isApart 4 = .ok (.iload_n 3, 1) := by decide +kernel
theorem dX12_isApart_5 : decode cX12_isApart 5 = .ok (.aload_n 0, 1) := by decide +kernel
theorem dX12_isApart_6 : decode cX12_isApart 6 = .ok (.getfield 9, 3) := by decide +kernel
theorem dX12_isApart_9 : decode cX12_isApart 9 = .ok (.iconst 0, 1) := by decide +kernel
theorem dX12_isApart_10 : decode cX12_isApart 10 = .ok (.iaload, 1) := by decide +kernel
theorem dX12_isApart_11 : decode cX12_isApart 11 = .ok (.if_icmp .ge 41, 3) := by decide +kernel
theorem dX12_isApart_14 : decode cX12_isApart 14 = .ok (.iload_n 1, 1) := by decide +kernel
theorem dX12_isApart_15 : decode cX12_isApart 15 = .ok (.iload_n 3, 1) := by decide +kernel
theorem dX12_isApart_16 : decode cX12_isApart 16 = .ok (.invokestatic 123, 3) := by decide +kernel
theorem dX12_isApart_19 : decode cX12_isApart 19 = .ok (.istore 4, 2) := by decide +kernel
theorem dX12_isApart_21 : decode cX12_isApart 21 = .ok (.iload 4, 2) := by decide +kernel
theorem dX12_isApart_23 : decode cX12_isApart 23 = .ok (.iconst 4, 1) := by decide +kernel
theorem dX12_isApart_24 : decode cX12_isApart 24 = .ok (.if_icmp .eq 13, 3) := by decide +kernel
theorem dX12_isApart_27 : decode cX12_isApart 27 = .ok (.iload_n 2, 1) := by decide +kernel
theorem dX12_isApart_28 : decode cX12_isApart 28 = .ok (.iload 4, 2) := by decide +kernel
theorem dX12_isApart_30 : decode cX12_isApart 30 = .ok (.ishr, 1) := by decide +kernel
theorem dX12_isApart_31 : decode cX12_isApart 31 = .ok (.iconst 1, 1) := by decide +kernel
theorem dX12_isApart_32 : decode cX12_isApart 32 = .ok (.iand, 1) := by decide +kernel
theorem dX12_isApart_33 : decode cX12_isApart 33 = .ok (.iconst 1, 1) := by decide +kernel
theorem dX12_isApart_34 : decode cX12_isApart 34 = .ok (.if_icmp .ne 5, 3) := by decide +kernel
theorem dX12_isApart_37 : decode cX12_isApart 37 = .ok (.iconst 0, 1) := by decide +kernel
theorem dX12_isApart_38 : decode cX12_isApart 38 = .ok (.ireturn, 1) := by decide +kernel
theorem dX12_isApart_39 : decode cX12_isApart 39 = .ok (.iload_n 2, 1) := by decide +kernel
theorem dX12_isApart_40 : decode cX12_isApart 40 = .ok (.iconst 1, 1) := by decide +kernel
theorem dX12_isApart_41 : decode cX12_isApart 41 = .ok (.iload 4, 2) := by decide +kernel
theorem dX12_isApart_43 : decode cX12_isApart 43 = .ok (.ishl, 1) := by decide +kernel
theorem dX12_isApart_44 : decode cX12_isApart 44 = .ok (.ior, 1) := by decide +kernel
theorem dX12_isApart_45 : decode cX12_isApart 45 = .ok (.istore_n 2, 1) := by decide +kernel
theorem dX12_isApart_46 : decode cX12_isApart 46 = .ok (.iinc 3 1, 3) := by decide +kernel
theorem dX12_isApart_49 : decode cX12_isApart 49 = .ok (.goto (-45), 3) := by decide +kernel
theorem dX12_isApart_52 : decode cX12_isApart 52 = .ok (.iconst 1, 1) := by decide +kernel
theorem dX12_isApart_53 : decode cX12_isApart 53 = .ok (.ireturn, 1) := by decide +kernel
set_option maxRecDepth 20000 in
theorem ggX12_apart_X12_isOpen : GoodIn wsX12_apart wsX12_isOpen := goodIn_r _ [5, 6, 60, 61, 62, 63, 64, 65, 66, 67, 68, 69, 70, 71, 72, 73, 74, 75, 76, 77, 78, 79, 80, 81, 82, 83] (by decide +kernel) (by decide +kernel)
set_option maxRecDepth 20000 in
theorem gX12_apart_X12_isOpen : GoodIn wsX12_apart (wsV RX12 102 RX12 yX12_isOpen wsX12_isOpen) := goodIn_app (goodIn_of _ (by decide +kernel)) ggX12_apart_X12_isOpen
set_option maxRecDepth 20000 in
theorem ggX12_apart_X12_fits : GoodIn wsX12_apart wsX12_fits := goodIn_r _ [10, 6, 60, 61, 62, 63, 64, 65, 66, 67, 68, 69, 70, 71, 72, 73, 74, 75, 76, 77, 78, 79, 80, 81, 82, 83] (by decide +kernel) (by decide +kernel)
set_option maxRecDepth 20000 in
theorem gX12_apart_X12_fits : GoodIn wsX12_apart (wsV RX12 120 RX12 yX12_fits wsX12_fits) := goodIn_app (goodIn_of _ (by decide +kernel)) ggX12_apart_X12_fits
set_option maxRecDepth 20000 in
theorem ggX12_apart_X12_isApart : GoodIn wsX12_apart wsX12_isApart := goodIn_r _ [14, 6, 15, 16, 4, 17, 60, 61, 62, 63, 64, 65, 66, 67, 68, 69, 70, 71, 72, 73, 74, 75, 76, 77, 78, 79, 80, 81, 82, 83] (by decide +kernel) (by decide +kernel)
set_option maxRecDepth 20000 in
theorem gX12_apart_X12_isApart : GoodIn wsX12_apart (wsV RX12 193 RX12 yX12_isApart wsX12_isApart) := goodIn_app (goodIn_of _ (by decide +kernel)) ggX12_apart_X12_isApart
set_option maxRecDepth 20000 in
theorem ggX12_apart_X12_isSure : GoodIn wsX12_apart wsX12_isSure := goodIn_r _ [21, 22, 23, 24, 4, 25, 6, 26, 7, 8, 9, 10, 27, 28, 29, 15, 16, 17, 30, 31, 32, 33, 34, 35, 36, 37, 38, 39, 40, 41, 42, 43, 44, 45, 46, 47, 48, 49, 50, 51, 52, 53, 54, 55, 60, 61, 62, 63, 64, 65, 66, 67, 68, 69, 70, 71, 72, 73, 74, 75, 76, 77, 78, 79, 80, 81, 82, 83] (by decide +kernel) (by decide +kernel)
set_option maxRecDepth 20000 in
theorem gX12_apart_X12_isSure : GoodIn wsX12_apart (wsV RX12 170 RX12 yX12_isSure wsX12_isSure) := goodIn_app (goodIn_of _ (by decide +kernel)) ggX12_apart_X12_isSure
set_option maxRecDepth 20000 in
theorem ggX12_apart_X12_wasteOf : GoodIn wsX12_apart wsX12_wasteOf := goodIn_r _ [59, 6, 15, 16, 4, 17, 60, 61, 62, 63, 64, 65, 66, 67, 68, 69, 70, 71, 72, 73, 74, 75, 76, 77, 78, 79, 80, 81, 82, 83] (by decide +kernel) (by decide +kernel)
set_option maxRecDepth 20000 in
theorem gX12_apart_X12_wasteOf : GoodIn wsX12_apart (wsV RX12 190 RX12 yX12_wasteOf wsX12_wasteOf) := goodIn_app (goodIn_of _ (by decide +kernel)) ggX12_apart_X12_wasteOf
theorem dX12_apart_0 : decode cX12_apart 0 = .ok (.aload_n 0, 1) := by decide +kernel
theorem dX12_apart_1 : decode cX12_apart 1 = .ok (.invokevirtual 102, 3) := by decide +kernel
theorem dX12_apart_4 : decode cX12_apart 4 = .ok (.ifCond .ne 6, 3) := by decide +kernel
theorem dX12_apart_7 : decode cX12_apart 7 = .ok (.bipush (-3), 2) := by decide +kernel
theorem dX12_apart_9 : decode cX12_apart 9 = .ok (.ireturn, 1) := by decide +kernel
theorem dX12_apart_10 : decode cX12_apart 10 = .ok (.bipush (-4), 2) := by decide +kernel
theorem dX12_apart_12 : decode cX12_apart 12 = .ok (.istore_n 1, 1) := by decide +kernel
theorem dX12_apart_13 : decode cX12_apart 13 = .ok (.iconst 0, 1) := by decide +kernel
theorem dX12_apart_14 : decode cX12_apart 14 = .ok (.istore_n 2, 1) := by decide +kernel
theorem dX12_apart_15 : decode cX12_apart 15 = .ok (.iload_n 2, 1) := by decide +kernel
theorem dX12_apart_16 : decode cX12_apart 16 = .ok (.aload_n 0, 1) := by decide +kernel
theorem dX12_apart_17 : decode cX12_apart 17 = .ok (.invokevirtual 120, 3) := by decide +kernel
theorem dX12_apart_20 : decode cX12_apart 20 = .ok (.if_icmp .ge 44, 3) := by decide +kernel
theorem dX12_apart_23 : decode cX12_apart 23 = .ok (.aload_n 0, 1) := by decide +kernel
theorem dX12_apart_24 : decode cX12_apart 24 = .ok (.iload_n 2, 1) := by decide +kernel
theorem dX12_apart_25 : decode cX12_apart 25 = .ok (.invokevirtual 193, 3) := by decide +kernel
theorem dX12_apart_28 : decode cX12_apart 28 = .ok (.ifCond .eq 30, 3) := by decide +kernel
theorem dX12_apart_31 : decode cX12_apart 31 = .ok (.aload_n 0, 1) := by decide +kernel
theorem dX12_apart_32 : decode cX12_apart 32 = .ok (.iload_n 2, 1) := by decide +kernel
theorem dX12_apart_33 : decode cX12_apart 33 = .ok (.invokevirtual 170, 3) := by decide +kernel
theorem dX12_apart_36 : decode cX12_apart 36 = .ok (.ifCond .eq 22, 3) := by decide +kernel
theorem dX12_apart_39 : decode cX12_apart 39 = .ok (.iload_n 1, 1) := by decide +kernel
theorem dX12_apart_40 : decode cX12_apart 40 = .ok (.ifCond .lt 16, 3) := by decide +kernel
theorem dX12_apart_43 : decode cX12_apart 43 = .ok (.aload_n 0, 1) := by decide +kernel
theorem dX12_apart_44 : decode cX12_apart 44 = .ok (.iload_n 2, 1) := by decide +kernel
theorem dX12_apart_45 : decode cX12_apart 45 = .ok (.invokevirtual 190, 3) := by decide +kernel
theorem dX12_apart_48 : decode cX12_apart 48 = .ok (.aload_n 0, 1) := by decide +kernel
theorem dX12_apart_49 : decode cX12_apart 49 = .ok (.iload_n 1, 1) := by decide +kernel
theorem dX12_apart_50 : decode cX12_apart 50 = .ok (.invokevirtual 190, 3) := by decide +kernel
theorem dX12_apart_53 : decode cX12_apart 53 = .ok (.if_icmp .ge 5, 3) := by decide +kernel
theorem dX12_apart_56 : decode cX12_apart 56 = .ok (.iload_n 2, 1) := by decide +kernel
theorem dX12_apart_57 : decode cX12_apart 57 = .ok (.istore_n 1, 1) := by decide +kernel
theorem dX12_apart_58 : decode cX12_apart 58 = .ok (.iinc 2 1, 3) := by decide +kernel
theorem dX12_apart_61 : decode cX12_apart 61 = .ok (.goto (-46), 3) := by decide +kernel
theorem dX12_apart_64 : decode cX12_apart 64 = .ok (.iload_n 1, 1) := by decide +kernel
theorem dX12_apart_65 : decode cX12_apart 65 = .ok (.ireturn, 1) := by decide +kernel
set_option maxRecDepth 20000 in
theorem ggX12_justNot_X12_isOpen : GoodIn wsX12_justNot wsX12_isOpen := goodIn_r _ [8, 1, 52, 53, 54, 55, 56, 57, 58, 59, 60, 61, 62, 63, 64, 65, 66, 67, 68, 69, 70, 71, 72, 73, 74, 75] (by decide +kernel) (by decide +kernel)
set_option maxRecDepth 20000 in
theorem gX12_justNot_X12_isOpen : GoodIn wsX12_justNot (wsV RX12 102 RX12 yX12_isOpen wsX12_isOpen) := goodIn_app (goodIn_of _ (by decide +kernel)) ggX12_justNot_X12_isOpen
set_option maxRecDepth 20000 in
theorem ggX12_justNot_X12_isFit : GoodIn wsX12_justNot wsX12_isFit := goodIn_r _ [12, 1, 13, 14, 15, 16, 7, 17, 18, 19, 20, 21, 22, 23, 52, 53, 54, 55, 56, 57, 58, 59, 60, 61, 62, 63, 64, 65, 66, 67, 68, 69, 70, 71, 72, 73, 74, 75] (by decide +kernel) (by decide +kernel)
set_option maxRecDepth 20000 in
theorem gX12_justNot_X12_isFit : GoodIn wsX12_justNot (wsV RX12 154 RX12 yX12_isFit wsX12_isFit) := goodIn_app (goodIn_of _ (by decide +kernel)) ggX12_justNot_X12_isFit
set_option maxRecDepth 20000 in
theorem ggX12_justNot_X12_isSure : GoodIn wsX12_justNot wsX12_isSure := goodIn_r _ [27, 9, 10, 11, 7, 12, 1, 13, 14, 15, 16, 17, 18, 19, 20, 21, 22, 23, 28, 29, 30, 31, 2, 3, 32, 33, 34, 35, 36, 37, 38, 39, 40, 41, 42, 43, 44, 45, 46, 47, 48, 49, 50, 51, 52, 53, 54, 55, 56, 57, 58, 59, 60, 61, 62, 63, 64, 65, 66, 67, 68, 69, 70, 71, 72, 73, 74, 75] (by decide +kernel) (by decide +kernel)
set_option maxRecDepth 20000 in
theorem gX12_justNot_X12_isSure : GoodIn wsX12_justNot (wsV RX12 170 RX12 yX12_isSure wsX12_isSure) := goodIn_app (goodIn_of _ (by decide +kernel)) ggX12_justNot_X12_isSure
set_option maxRecDepth 20000 in
theorem ggX12_justNot_X12_made : GoodIn wsX12_justNot wsX12_made := goodIn_r _ [23] (by decide +kernel) (by decide +kernel)
set_option maxRecDepth 20000 in
theorem gX12_justNot_X12_made : GoodIn wsX12_justNot (va_wsS RX12 123 yX12_made wsX12_made) := goodIn_app (goodIn_of _ (by decide +kernel)) ggX12_justNot_X12_made
set_option maxRecDepth 20000 in
theorem ggX12_justNot_X12_findGets : GoodIn wsX12_justNot wsX12_findGets := goodIn_r _ [35, 36, 1, 2, 3, 37, 38, 39, 40, 41, 7, 42, 43, 21, 22, 23, 44, 45, 46, 47, 52, 53, 54, 55, 56, 57, 58, 59, 60, 61, 62, 63, 64, 65, 66, 67, 68, 69, 70, 71, 72, 73, 74, 75] (by decide +kernel) (by decide +kernel)
set_option maxRecDepth 20000 in
theorem gX12_justNot_X12_findGets : GoodIn wsX12_justNot (wsV RX12 162 RX12 yX12_findGets wsX12_findGets) := goodIn_app (goodIn_of _ (by decide +kernel)) ggX12_justNot_X12_findGets
set_option maxRecDepth 20000 in
theorem ggX12_justNot_X12_isMark : GoodIn wsX12_justNot wsX12_isMark := goodIn_r _ [51, 1, 18, 19, 7, 20, 52, 53, 54, 55, 56, 57, 58, 59, 60, 61, 62, 63, 64, 65, 66, 67, 68, 69, 70, 71, 72, 73, 74, 75] (by decide +kernel) (by decide +kernel)
set_option maxRecDepth 20000 in
theorem gX12_justNot_X12_isMark : GoodIn wsX12_justNot (wsV RX12 110 RX12 yX12_isMark wsX12_isMark) := goodIn_app (goodIn_of _ (by decide +kernel)) ggX12_justNot_X12_isMark
theorem dX12_justNot_0 : decode cX12_justNot 0 = .ok (.aload_n 0, 1) := by decide +kernel
theorem dX12_justNot_1 : decode cX12_justNot 1 = .ok (.invokevirtual 102, 3) := by decide +kernel
theorem dX12_justNot_4 : decode cX12_justNot 4 = .ok (.ifCond .ne 6, 3) := by decide +kernel
theorem dX12_justNot_7 : decode cX12_justNot 7 = .ok (.bipush (-3), 2) := by decide +kernel
theorem dX12_justNot_9 : decode cX12_justNot 9 = .ok (.ireturn, 1) := by decide +kernel
theorem dX12_justNot_10 : decode cX12_justNot 10 = .ok (.aload_n 0, 1) := by decide +kernel
theorem dX12_justNot_11 : decode cX12_justNot 11 = .ok (.iload_n 1, 1) := by decide +kernel
theorem dX12_justNot_12 : decode cX12_justNot 12 = .ok (.invokevirtual 154, 3) := by decide +kernel
theorem dX12_justNot_15 : decode cX12_justNot 15 = .ok (.ifCond .ne 5, 3) := by decide +kernel
theorem dX12_justNot_18 : decode cX12_justNot 18 = .ok (.iconst (-1), 1) := by decide +kernel
theorem dX12_justNot_19 : decode cX12_justNot 19 = .ok (.ireturn, 1) := by decide +kernel
theorem dX12_justNot_20 : decode cX12_justNot 20 = .ok (.aload_n 0, 1) := by decide +kernel
theorem dX12_justNot_21 : decode cX12_justNot 21 = .ok (.iload_n 1, 1) := by decide +kernel
theorem dX12_justNot_22 : decode cX12_justNot 22 = .ok (.invokevirtual 170, 3) := by decide +kernel
theorem dX12_justNot_25 : decode cX12_justNot 25 = .ok (.ifCond .ne 6, 3) := by decide +kernel
theorem dX12_justNot_28 : decode cX12_justNot 28 = .ok (.bipush (-3), 2) := by decide +kernel
theorem dX12_justNot_30 : decode cX12_justNot 30 = .ok (.ireturn, 1) := by decide +kernel
theorem dX12_justNot_31 : decode cX12_justNot 31 = .ok (.bipush (-4), 2) := by decide +kernel
theorem dX12_justNot_33 : decode cX12_justNot 33 = .ok (.istore_n 2, 1) := by decide +kernel
theorem dX12_justNot_34 : decode cX12_justNot 34 = .ok (.lconst 0, 1) := by decide +kernel
theorem dX12_justNot_35 : decode cX12_justNot 35 = .ok (.lstore_n 3, 1) := by decide +kernel
theorem dX12_justNot_36 : decode cX12_justNot 36 = .ok (.lconst 1, 1) := by decide +kernel
theorem dX12_justNot_37 : decode cX12_justNot 37 = .ok (.lstore 5, 2) := by decide +kernel
theorem dX12_justNot_39 : decode cX12_justNot 39 = .ok (.iconst 0, 1) := by decide +kernel
theorem dX12_justNot_40 : decode cX12_justNot 40 = .ok (.istore 7, 2) := by decide +kernel
theorem dX12_justNot_42 : decode cX12_justNot 42 = .ok (.iload 7, 2) := by decide +kernel
theorem dX12_justNot_44 : decode cX12_justNot 44 = .ok (.aload_n 0, 1) := by decide +kernel
theorem dX12_justNot_45 : decode cX12_justNot 45 = .ok (.getfield 9, 3) := by decide +kernel
theorem dX12_justNot_48 : decode cX12_justNot 48 = .ok (.iconst 0, 1) := by decide +kernel
theorem dX12_justNot_49 : decode cX12_justNot 49 = .ok (.iaload, 1) := by decide +kernel
theorem dX12_justNot_50 : decode cX12_justNot 50 = .ok (.if_icmp .ge 150, 3) := by decide +kernel
theorem dX12_justNot_53 : decode cX12_justNot 53 = .ok (.aload_n 0, 1) := by decide +kernel
theorem dX12_justNot_54 : decode cX12_justNot 54 = .ok (.iload_n 1, 1) := by decide +kernel
theorem dX12_justNot_55 : decode cX12_justNot 55 = .ok (.iload 7, 2) := by decide +kernel
theorem dX12_justNot_57 : decode cX12_justNot 57 = .ok (.iload_n 1, 1) := by decide +kernel
theorem dX12_justNot_58 : decode cX12_justNot 58 = .ok (.iload 7, 2) := by decide +kernel
theorem dX12_justNot_60 : decode cX12_justNot 60 = .ok (.invokestatic 123, 3) := by decide +kernel
theorem dX12_justNot_63 : decode cX12_justNot 63 = .ok (.invokevirtual 162, 3) := by decide +kernel
theorem dX12_justNot_66 : decode cX12_justNot 66 = .ok (.aload_n 0, 1) := by decide +kernel
theorem dX12_justNot_67 : decode cX12_justNot 67 = .ok (.getfield 129, 3) := by decide +kernel
theorem dX12_justNot_70 : decode cX12_justNot 70 = .ok (.lstore 8, 2) := by decide +kernel
theorem dX12_justNot_72 : decode cX12_justNot 72 = .ok (.aload_n 0, 1) := by decide +kernel
theorem dX12_justNot_73 : decode cX12_justNot 73 = .ok (.getfield 133, 3) := by decide +kernel
theorem dX12_justNot_76 : decode cX12_justNot 76 = .ok (.lstore 10, 2) := by decide +kernel
theorem dX12_justNot_78 : decode cX12_justNot 78 = .ok (.iconst 0, 1) := by decide +kernel
theorem dX12_justNot_79 : decode cX12_justNot 79 = .ok (.istore 12, 2) := by decide +kernel
theorem dX12_justNot_81 : decode cX12_justNot 81 = .ok (.iload 12, 2) := by decide +kernel
theorem dX12_justNot_83 : decode cX12_justNot 83 = .ok (.iconst 4, 1) := by decide +kernel
theorem dX12_justNot_84 : decode cX12_justNot 84 = .ok (.if_icmp .gt 110, 3) := by decide +kernel
theorem dX12_justNot_87 : decode cX12_justNot 87 = .ok (.iload 12, 2) := by decide +kernel
theorem dX12_justNot_89 : decode cX12_justNot 89 = .ok (.iload_n 1, 1) := by decide +kernel
theorem dX12_justNot_90 : decode cX12_justNot 90 = .ok (.iload 7, 2) := by decide +kernel
theorem dX12_justNot_92 : decode cX12_justNot 92 = .ok (.invokestatic 123, 3) := by decide +kernel
theorem dX12_justNot_95 : decode cX12_justNot 95 = .ok (.if_icmp .eq 93, 3) := by decide +kernel
theorem dX12_justNot_98 : decode cX12_justNot 98 = .ok (.iload 12, 2) := by decide +kernel
theorem dX12_justNot_100 : decode cX12_justNot 100 = .ok (.iconst 4, 1) := by decide +kernel
theorem dX12_justNot_101 : decode cX12_justNot 101 = .ok (.if_icmp .eq 15, 3) := by decide +kernel
theorem dX12_justNot_104 : decode cX12_justNot 104 = .ok (.aload_n 0, 1) := by decide +kernel
theorem dX12_justNot_105 : decode cX12_justNot 105 = .ok (.iload 12, 2) := by decide +kernel
theorem dX12_justNot_107 : decode cX12_justNot 107 = .ok (.invokevirtual 110, 3) := by decide +kernel
theorem dX12_justNot_110 : decode cX12_justNot 110 = .ok (.ifCond .ne 6, 3) := by decide +kernel
theorem dX12_justNot_113 : decode cX12_justNot 113 = .ok (.goto 75, 3) := by decide +kernel
theorem dX12_justNot_116 : decode cX12_justNot 116 = .ok (.aload_n 0, 1) := by decide +kernel
theorem dX12_justNot_117 : decode cX12_justNot 117 = .ok (.iload_n 1, 1) := by decide +kernel
theorem dX12_justNot_118 : decode cX12_justNot 118 = .ok (.iload 7, 2) := by decide +kernel
theorem dX12_justNot_120 : decode cX12_justNot 120 = .ok (.iload 12, 2) := by decide +kernel
theorem dX12_justNot_122 : decode cX12_justNot 122 = .ok (.invokevirtual 162, 3) := by decide +kernel
theorem dX12_justNot_125 : decode cX12_justNot 125 = .ok (.lload 8, 2) := by decide +kernel
theorem dX12_justNot_127 : decode cX12_justNot 127 = .ok (.aload_n 0, 1) := by decide +kernel
theorem dX12_justNot_128 : decode cX12_justNot 128 = .ok (.getfield 133, 3) := by decide +kernel
theorem dX12_justNot_131 : decode cX12_justNot 131 = .ok (.lmul, 1) := by decide +kernel
theorem dX12_justNot_132 : decode cX12_justNot 132 = .ok (.aload_n 0, 1) := by decide +kernel
theorem dX12_justNot_133 : decode cX12_justNot 133 = .ok (.getfield 129, 3) := by decide +kernel
theorem dX12_justNot_136 : decode cX12_justNot 136 = .ok (.lload 10, 2) := by decide +kernel
theorem dX12_justNot_138 : decode cX12_justNot 138 = .ok (.lmul, 1) := by decide +kernel
theorem dX12_justNot_139 : decode cX12_justNot 139 = .ok (.lsub, 1) := by decide +kernel
theorem dX12_justNot_140 : decode cX12_justNot 140 = .ok (.lstore 13, 2) := by decide +kernel
theorem dX12_justNot_142 : decode cX12_justNot 142 = .ok (.iload_n 2, 1) := by decide +kernel
theorem dX12_justNot_143 : decode cX12_justNot 143 = .ok (.ifCond .lt 24, 3) := by decide +kernel
theorem dX12_justNot_146 : decode cX12_justNot 146 = .ok (.lload 13, 2) := by decide +kernel
theorem dX12_justNot_148 : decode cX12_justNot 148 = .ok (.lload 5, 2) := by decide +kernel
theorem dX12_justNot_150 : decode cX12_justNot 150 = .ok (.lmul, 1) := by decide +kernel
theorem dX12_justNot_151 : decode cX12_justNot 151 = .ok (.lload_n 3, 1) := by decide +kernel
theorem dX12_justNot_152 : decode cX12_justNot 152 = .ok (.lload 10, 2) := by decide +kernel
theorem dX12_justNot_154 : decode cX12_justNot 154 = .ok (.aload_n 0, 1) := by decide +kernel
theorem dX12_justNot_155 : decode cX12_justNot 155 = .ok (.getfield 133, 3) := by decide +kernel
theorem dX12_justNot_158 : decode cX12_justNot 158 = .ok (.lmul, 1) := by decide +kernel
theorem dX12_justNot_159 : decode cX12_justNot 159 = .ok (.lmul, 1) := by decide +kernel
theorem dX12_justNot_160 : decode cX12_justNot 160 = .ok (.lcmp, 1) := by decide +kernel
theorem dX12_justNot_161 : decode cX12_justNot 161 = .ok (.ifCond .lt 6, 3) := by decide +kernel
theorem dX12_justNot_164 : decode cX12_justNot 164 = .ok (.goto 24, 3) := by decide +kernel
theorem dX12_justNot_167 : decode cX12_justNot 167 = .ok (.bipush 10, 2) := by decide +kernel
theorem dX12_justNot_169 : decode cX12_justNot 169 = .ok (.iload 7, 2) := by decide +kernel
theorem dX12_justNot_171 : decode cX12_justNot 171 = .ok (.imul, 1) := by decide +kernel
theorem dX12_justNot_172 : decode cX12_justNot 172 = .ok (.iload 12, 2) := by decide +kernel
theorem dX12_justNot_174 : decode cX12_justNot 174 = .ok (.iadd, 1) := by decide +kernel
theorem dX12_justNot_175 : decode cX12_justNot 175 = .ok (.istore_n 2, 1) := by decide +kernel
theorem dX12_justNot_176 : decode cX12_justNot 176 = .ok (.lload 13, 2) := by decide +kernel
theorem dX12_justNot_178 : decode cX12_justNot 178 = .ok (.lstore_n 3, 1) := by decide +kernel
theorem dX12_justNot_179 : decode cX12_justNot 179 = .ok (.lload 10, 2) := by decide +kernel
theorem dX12_justNot_181 : decode cX12_justNot 181 = .ok (.aload_n 0, 1) := by decide +kernel
theorem dX12_justNot_182 : decode cX12_justNot 182 = .ok (.getfield 133, 3) := by decide +kernel
theorem dX12_justNot_185 : decode cX12_justNot 185 = .ok (.lmul, 1) := by decide +kernel
theorem dX12_justNot_186 : decode cX12_justNot 186 = .ok (.lstore 5, 2) := by decide +kernel
theorem dX12_justNot_188 : decode cX12_justNot 188 = .ok (.iinc 12 1, 3) := by decide +kernel
theorem dX12_justNot_191 : decode cX12_justNot 191 = .ok (.goto (-110), 3) := by decide +kernel
theorem dX12_justNot_194 : decode cX12_justNot 194 = .ok (.iinc 7 1, 3) := by decide +kernel
theorem dX12_justNot_197 : decode cX12_justNot 197 = .ok (.goto (-155), 3) := by decide +kernel
theorem dX12_justNot_200 : decode cX12_justNot 200 = .ok (.iload_n 2, 1) := by decide +kernel
theorem dX12_justNot_201 : decode cX12_justNot 201 = .ok (.ireturn, 1) := by decide +kernel
set_option maxRecDepth 20000 in
theorem ggX12_findGain_X12_made : GoodIn wsX12_findGain wsX12_made := goodIn_r _ [8] (by decide +kernel) (by decide +kernel)
set_option maxRecDepth 20000 in
theorem gX12_findGain_X12_made : GoodIn wsX12_findGain (va_wsS RX12 123 yX12_made wsX12_made) := goodIn_app (goodIn_of _ (by decide +kernel)) ggX12_findGain_X12_made
set_option maxRecDepth 20000 in
theorem ggX12_findGain_X12_findGets : GoodIn wsX12_findGain wsX12_findGets := goodIn_r _ [12, 13, 1, 3, 4, 14, 2, 15, 16, 17, 7, 18, 19, 5, 6, 8, 20, 21, 22, 23, 24, 25, 26, 27, 28, 29, 30, 31, 32, 33, 34, 35, 36, 37, 38, 39, 40, 41, 42, 43, 44, 45, 46, 47] (by decide +kernel) (by decide +kernel)
set_option maxRecDepth 20000 in
theorem gX12_findGain_X12_findGets : GoodIn wsX12_findGain (wsV RX12 162 RX12 yX12_findGets wsX12_findGets) := goodIn_app (goodIn_of _ (by decide +kernel)) ggX12_findGain_X12_findGets
theorem dX12_findGain_0 : decode cX12_findGain 0 = .ok (.aload_n 0, 1) := by decide +kernel
theorem dX12_findGain_1 : decode cX12_findGain 1 = .ok (.iload_n 1, 1) := by decide +kernel
theorem dX12_findGain_2 : decode cX12_findGain 2 = .ok (.iload_n 2, 1) := by decide +kernel
theorem dX12_findGain_3 : decode cX12_findGain 3 = .ok (.iload_n 1, 1) := by decide +kernel
theorem dX12_findGain_4 : decode cX12_findGain 4 = .ok (.iload_n 2, 1) := by decide +kernel
theorem dX12_findGain_5 : decode cX12_findGain 5 = .ok (.invokestatic 123, 3) := by decide +kernel
theorem dX12_findGain_8 : decode cX12_findGain 8 = .ok (.invokevirtual 162, 3) := by decide +kernel
theorem dX12_findGain_11 : decode cX12_findGain 11 = .ok (.aload_n 0, 1) := by decide +kernel
theorem dX12_findGain_12 : decode cX12_findGain 12 = .ok (.getfield 9, 3) := by decide +kernel
theorem dX12_findGain_15 : decode cX12_findGain 15 = .ok (.bipush 7, 2) := by decide +kernel
theorem dX12_findGain_17 : decode cX12_findGain 17 = .ok (.iload_n 2, 1) := by decide +kernel
theorem dX12_findGain_18 : decode cX12_findGain 18 = .ok (.iadd, 1) := by decide +kernel
theorem dX12_findGain_19 : decode cX12_findGain 19 = .ok (.iaload, 1) := by decide +kernel
theorem dX12_findGain_20 : decode cX12_findGain 20 = .ok (.i2l, 1) := by decide +kernel
theorem dX12_findGain_21 : decode cX12_findGain 21 = .ok (.lstore 4, 2) := by decide +kernel
theorem dX12_findGain_23 : decode cX12_findGain 23 = .ok (.lconst 1, 1) := by decide +kernel
theorem dX12_findGain_24 : decode cX12_findGain 24 = .ok (.lstore 6, 2) := by decide +kernel
theorem dX12_findGain_26 : decode cX12_findGain 26 = .ok (.iload_n 3, 1) := by decide +kernel
theorem dX12_findGain_27 : decode cX12_findGain 27 = .ok (.ifCond .ne 58, 3) := by decide +kernel
theorem dX12_findGain_30 : decode cX12_findGain 30 = .ok (.lconst 0, 1) := by decide +kernel
theorem dX12_findGain_31 : decode cX12_findGain 31 = .ok (.lstore 4, 2) := by decide +kernel
theorem dX12_findGain_33 : decode cX12_findGain 33 = .ok (.ldc2_w 87, 3) := by decide +kernel
theorem dX12_findGain_36 : decode cX12_findGain 36 = .ok (.lstore 6, 2) := by decide +kernel
theorem dX12_findGain_38 : decode cX12_findGain 38 = .ok (.iconst 0, 1) := by decide +kernel
theorem dX12_findGain_39 : decode cX12_findGain 39 = .ok (.istore 8, 2) := by decide +kernel
theorem dX12_findGain_41 : decode cX12_findGain 41 = .ok (.iload 8, 2) := by decide +kernel
theorem dX12_findGain_43 : decode cX12_findGain 43 = .ok (.aload_n 0, 1) := by decide +kernel
theorem dX12_findGain_44 : decode cX12_findGain 44 = .ok (.getfield 9, 3) := by decide +kernel
theorem dX12_findGain_47 : decode cX12_findGain 47 = .ok (.iconst 0, 1) := by decide +kernel
theorem dX12_findGain_48 : decode cX12_findGain 48 = .ok (.iaload, 1) := by decide +kernel
theorem dX12_findGain_49 : decode cX12_findGain 49 = .ok (.if_icmp .ge 36, 3) := by decide +kernel
theorem dX12_findGain_52 : decode cX12_findGain 52 = .ok (.lload 4, 2) := by decide +kernel
theorem dX12_findGain_54 : decode cX12_findGain 54 = .ok (.aload_n 0, 1) := by decide +kernel
theorem dX12_findGain_55 : decode cX12_findGain 55 = .ok (.getfield 9, 3) := by decide +kernel
theorem dX12_findGain_58 : decode cX12_findGain 58 = .ok (.iconst 3, 1) := by decide +kernel
theorem dX12_findGain_59 : decode cX12_findGain 59 = .ok (.iload 8, 2) := by decide +kernel
theorem dX12_findGain_61 : decode cX12_findGain 61 = .ok (.iadd, 1) := by decide +kernel
theorem dX12_findGain_62 : decode cX12_findGain 62 = .ok (.iaload, 1) := by decide +kernel
theorem dX12_findGain_63 : decode cX12_findGain 63 = .ok (.i2l, 1) := by decide +kernel
theorem dX12_findGain_64 : decode cX12_findGain 64 = .ok (.aload_n 0, 1) := by decide +kernel
theorem dX12_findGain_65 : decode cX12_findGain 65 = .ok (.getfield 9, 3) := by decide +kernel
theorem dX12_findGain_68 : decode cX12_findGain 68 = .ok (.bipush 7, 2) := by decide +kernel
theorem dX12_findGain_70 : decode cX12_findGain 70 = .ok (.iload 8, 2) := by decide +kernel
theorem dX12_findGain_72 : decode cX12_findGain 72 = .ok (.iadd, 1) := by decide +kernel
theorem dX12_findGain_73 : decode cX12_findGain 73 = .ok (.iaload, 1) := by decide +kernel
theorem dX12_findGain_74 : decode cX12_findGain 74 = .ok (.i2l, 1) := by decide +kernel
theorem dX12_findGain_75 : decode cX12_findGain 75 = .ok (.lmul, 1) := by decide +kernel
theorem dX12_findGain_76 : decode cX12_findGain 76 = .ok (.ladd, 1) := by decide +kernel
theorem dX12_findGain_77 : decode cX12_findGain 77 = .ok (.lstore 4, 2) := by decide +kernel
theorem dX12_findGain_79 : decode cX12_findGain 79 = .ok (.iinc 8 1, 3) := by decide +kernel
theorem dX12_findGain_82 : decode cX12_findGain 82 = .ok (.goto (-41), 3) := by decide +kernel
theorem dX12_findGain_85 : decode cX12_findGain 85 = .ok (.aload_n 0, 1) := by decide +kernel
theorem dX12_findGain_86 : decode cX12_findGain 86 = .ok (.getfield 9, 3) := by decide +kernel
theorem dX12_findGain_89 : decode cX12_findGain 89 = .ok (.bipush 11, 2) := by decide +kernel
theorem dX12_findGain_91 : decode cX12_findGain 91 = .ok (.iload_n 2, 1) := by decide +kernel
theorem dX12_findGain_92 : decode cX12_findGain 92 = .ok (.iadd, 1) := by decide +kernel
theorem dX12_findGain_93 : decode cX12_findGain 93 = .ok (.iaload, 1) := by decide +kernel
theorem dX12_findGain_94 : decode cX12_findGain 94 = .ok (.i2l, 1) := by decide +kernel
theorem dX12_findGain_95 : decode cX12_findGain 95 = .ok (.lload 6, 2) := by decide +kernel
theorem dX12_findGain_97 : decode cX12_findGain 97 = .ok (.lmul, 1) := by decide +kernel
theorem dX12_findGain_98 : decode cX12_findGain 98 = .ok (.lload 4, 2) := by decide +kernel
theorem dX12_findGain_100 : decode cX12_findGain 100 = .ok (.lcmp, 1) := by decide +kernel
theorem dX12_findGain_101 : decode cX12_findGain 101 = .ok (.ifCond .le 18, 3) := by decide +kernel
theorem dX12_findGain_104 : decode cX12_findGain 104 = .ok (.aload_n 0, 1) := by decide +kernel
theorem dX12_findGain_105 : decode cX12_findGain 105 = .ok (.getfield 9, 3) := by decide +kernel
theorem dX12_findGain_108 : decode cX12_findGain 108 = .ok (.bipush 11, 2) := by decide +kernel
theorem dX12_findGain_110 : decode cX12_findGain 110 = .ok (.iload_n 2, 1) := by decide +kernel
theorem dX12_findGain_111 : decode cX12_findGain 111 = .ok (.iadd, 1) := by decide +kernel
theorem dX12_findGain_112 : decode cX12_findGain 112 = .ok (.iaload, 1) := by decide +kernel
theorem dX12_findGain_113 : decode cX12_findGain 113 = .ok (.i2l, 1) := by decide +kernel
theorem dX12_findGain_114 : decode cX12_findGain 114 = .ok (.lload 6, 2) := by decide +kernel
theorem dX12_findGain_116 : decode cX12_findGain 116 = .ok (.lmul, 1) := by decide +kernel
theorem dX12_findGain_117 : decode cX12_findGain 117 = .ok (.lstore 4, 2) := by decide +kernel
theorem dX12_findGain_119 : decode cX12_findGain 119 = .ok (.aload_n 0, 1) := by decide +kernel
theorem dX12_findGain_120 : decode cX12_findGain 120 = .ok (.aload_n 0, 1) := by decide +kernel
theorem dX12_findGain_121 : decode cX12_findGain 121 = .ok (.getfield 129, 3) := by decide +kernel
theorem dX12_findGain_124 : decode cX12_findGain 124 = .ok (.lload 6, 2) := by decide +kernel
theorem dX12_findGain_126 : decode cX12_findGain 126 = .ok (.lmul, 1) := by decide +kernel
theorem dX12_findGain_127 : decode cX12_findGain 127 = .ok (.lload 4, 2) := by decide +kernel
theorem dX12_findGain_129 : decode cX12_findGain 129 = .ok (.aload_n 0, 1) := by decide +kernel
theorem dX12_findGain_130 : decode cX12_findGain 130 = .ok (.getfield 133, 3) := by decide +kernel
theorem dX12_findGain_133 : decode cX12_findGain 133 = .ok (.lmul, 1) := by decide +kernel
theorem dX12_findGain_134 : decode cX12_findGain 134 = .ok (.lsub, 1) := by decide +kernel
theorem dX12_findGain_135 : decode cX12_findGain 135 = .ok (.putfield 129, 3) := by decide +kernel
theorem dX12_findGain_138 : decode cX12_findGain 138 = .ok (.aload_n 0, 1) := by decide +kernel
theorem dX12_findGain_139 : decode cX12_findGain 139 = .ok (.dup, 1) := by decide +kernel
theorem dX12_findGain_140 : decode cX12_findGain 140 = .ok (.getfield 133, 3) := by decide +kernel
theorem dX12_findGain_143 : decode cX12_findGain 143 = .ok (.lload 6, 2) := by decide +kernel
theorem dX12_findGain_145 : decode cX12_findGain 145 = .ok (.lmul, 1) := by decide +kernel
theorem dX12_findGain_146 : decode cX12_findGain 146 = .ok (.putfield 133, 3) := by decide +kernel
theorem dX12_findGain_149 : decode cX12_findGain 149 = .ok (.return_, 1) := by decide +kernel
set_option maxRecDepth 20000 in
theorem ggX12_gain_X12_isOpen : GoodIn wsX12_gain wsX12_isOpen := goodIn_r _ [8, 9, 55, 56, 57, 58, 59, 60, 61, 62, 63, 64, 65, 66, 67, 68, 69, 70, 71, 72, 73, 74, 75, 76, 77, 78] (by decide +kernel) (by decide +kernel)
set_option maxRecDepth 20000 in
theorem gX12_gain_X12_isOpen : GoodIn wsX12_gain (wsV RX12 102 RX12 yX12_isOpen wsX12_isOpen) := goodIn_app (goodIn_of _ (by decide +kernel)) ggX12_gain_X12_isOpen
set_option maxRecDepth 20000 in
theorem ggX12_gain_X12_isFit : GoodIn wsX12_gain wsX12_isFit := goodIn_r _ [13, 9, 14, 15, 16, 17, 7, 18, 19, 20, 21, 22, 23, 24, 55, 56, 57, 58, 59, 60, 61, 62, 63, 64, 65, 66, 67, 68, 69, 70, 71, 72, 73, 74, 75, 76, 77, 78] (by decide +kernel) (by decide +kernel)
set_option maxRecDepth 20000 in
theorem gX12_gain_X12_isFit : GoodIn wsX12_gain (wsV RX12 154 RX12 yX12_isFit wsX12_isFit) := goodIn_app (goodIn_of _ (by decide +kernel)) ggX12_gain_X12_isFit
set_option maxRecDepth 20000 in
theorem ggX12_gain_X12_isSort : GoodIn wsX12_gain wsX12_isSort := goodIn_r _ [28, 9, 19, 20, 7, 21, 55, 56, 57, 58, 59, 60, 61, 62, 63, 64, 65, 66, 67, 68, 69, 70, 71, 72, 73, 74, 75, 76, 77, 78] (by decide +kernel) (by decide +kernel)
set_option maxRecDepth 20000 in
theorem gX12_gain_X12_isSort : GoodIn wsX12_gain (wsV RX12 105 RX12 yX12_isSort wsX12_isSort) := goodIn_app (goodIn_of _ (by decide +kernel)) ggX12_gain_X12_isSort
set_option maxRecDepth 20000 in
theorem ggX12_gain_X12_isIn : GoodIn wsX12_gain wsX12_isIn := goodIn_r _ [21] (by decide +kernel) (by decide +kernel)
set_option maxRecDepth 20000 in
theorem gX12_gain_X12_isIn : GoodIn wsX12_gain (va_wsS RX12 50 yX12_isIn wsX12_isIn) := goodIn_app (goodIn_of _ (by decide +kernel)) ggX12_gain_X12_isIn
set_option maxRecDepth 20000 in
theorem ggX12_gain_X12_findGain : GoodIn wsX12_gain wsX12_findGain := goodIn_r _ [32, 9, 33, 2, 3, 22, 23, 7, 24, 34, 35, 36, 37, 38, 39, 40, 41, 42, 43, 44, 45, 46, 47, 48, 55, 56, 57, 58, 59, 60, 61, 62, 63, 64, 65, 66, 67, 68, 69, 70, 71, 72, 73, 74, 75, 76, 77, 78] (by decide +kernel) (by decide +kernel)
set_option maxRecDepth 20000 in
theorem gX12_gain_X12_findGain : GoodIn wsX12_gain (wsV RX12 196 RX12 yX12_findGain wsX12_findGain) := goodIn_app (goodIn_of _ (by decide +kernel)) ggX12_gain_X12_findGain
set_option maxRecDepth 20000 in
theorem ggX12_gain_X12_told : GoodIn wsX12_gain wsX12_told := goodIn_r _ [51, 52, 53, 7, 54] (by decide +kernel) (by decide +kernel)
set_option maxRecDepth 20000 in
theorem gX12_gain_X12_told : GoodIn wsX12_gain (va_wsS RX12 159 yX12_told wsX12_told) := goodIn_app (goodIn_of _ (by decide +kernel)) ggX12_gain_X12_told
theorem dX12_gain_0 : decode cX12_gain 0 = .ok (.aload_n 0, 1) := by decide +kernel
theorem dX12_gain_1 : decode cX12_gain 1 = .ok (.invokevirtual 102, 3) := by decide +kernel
theorem dX12_gain_4 : decode cX12_gain 4 = .ok (.ifCond .eq 40, 3) := by decide +kernel
theorem dX12_gain_7 : decode cX12_gain 7 = .ok (.aload_n 0, 1) := by decide +kernel
theorem dX12_gain_8 : decode cX12_gain 8 = .ok (.iload_n 1, 1) := by decide +kernel
theorem dX12_gain_9 : decode cX12_gain 9 = .ok (.invokevirtual 154, 3) := by decide +kernel
theorem dX12_gain_12 : decode cX12_gain 12 = .ok (.ifCond .eq 32, 3) := by decide +kernel
theorem dX12_gain_15 : decode cX12_gain 15 = .ok (.aload_n 0, 1) := by decide +kernel
theorem dX12_gain_16 : decode cX12_gain 16 = .ok (.iload_n 2, 1) := by decide +kernel
theorem dX12_gain_17 : decode cX12_gain 17 = .ok (.invokevirtual 105, 3) := by decide +kernel
theorem dX12_gain_20 : decode cX12_gain 20 = .ok (.ifCond .eq 24, 3) := by decide +kernel
theorem dX12_gain_23 : decode cX12_gain 23 = .ok (.iload_n 3, 1) := by decide +kernel
theorem dX12_gain_24 : decode cX12_gain 24 = .ok (.i2l, 1) := by decide +kernel
theorem dX12_gain_25 : decode cX12_gain 25 = .ok (.lconst 0, 1) := by decide +kernel
theorem dX12_gain_26 : decode cX12_gain 26 = .ok (.lconst 1, 1) := by decide +kernel
theorem dX12_gain_27 : decode cX12_gain 27 = .ok (.invokestatic 50, 3) := by decide +kernel
theorem dX12_gain_30 : decode cX12_gain 30 = .ok (.ifCond .eq 14, 3) := by decide +kernel
theorem dX12_gain_33 : decode cX12_gain 33 = .ok (.iload 4, 2) := by decide +kernel
theorem dX12_gain_35 : decode cX12_gain 35 = .ok (.i2l, 1) := by decide +kernel
theorem dX12_gain_36 : decode cX12_gain 36 = .ok (.lconst 0, 1) := by decide +kernel
theorem dX12_gain_37 : decode cX12_gain 37 = .ok (.lconst 1, 1) := by decide +kernel
theorem dX12_gain_38 : decode cX12_gain 38 = .ok (.invokestatic 50, 3) := by decide +kernel
theorem dX12_gain_41 : decode cX12_gain 41 = .ok (.ifCond .ne 7, 3) := by decide +kernel
theorem dX12_gain_44 : decode cX12_gain 44 = .ok (.ldc2_w 157, 3) := by decide +kernel
theorem dX12_gain_47 : decode cX12_gain 47 = .ok (.lreturn, 1) := by decide +kernel
theorem dX12_gain_48 : decode cX12_gain 48 = .ok (.aload_n 0, 1) := by decide +kernel
theorem dX12_gain_49 : decode cX12_gain 49 = .ok (.iload_n 1, 1) := by decide +kernel
theorem dX12_gain_50 : decode cX12_gain 50 = .ok (.iload_n 2, 1) := by decide +kernel
theorem dX12_gain_51 : decode cX12_gain 51 = .ok (.iload_n 3, 1) := by decide +kernel
theorem dX12_gain_52 : decode cX12_gain 52 = .ok (.invokevirtual 196, 3) := by decide +kernel
theorem dX12_gain_55 : decode cX12_gain 55 = .ok (.aload_n 0, 1) := by decide +kernel
theorem dX12_gain_56 : decode cX12_gain 56 = .ok (.getfield 129, 3) := by decide +kernel
theorem dX12_gain_59 : decode cX12_gain 59 = .ok (.aload_n 0, 1) := by decide +kernel
theorem dX12_gain_60 : decode cX12_gain 60 = .ok (.getfield 133, 3) := by decide +kernel
theorem dX12_gain_63 : decode cX12_gain 63 = .ok (.iload 4, 2) := by decide +kernel
theorem dX12_gain_65 : decode cX12_gain 65 = .ok (.invokestatic 159, 3) := by decide +kernel
theorem dX12_gain_68 : decode cX12_gain 68 = .ok (.lreturn, 1) := by decide +kernel
set_option maxRecDepth 20000 in
theorem ggX12_losers_X12_isOpen : GoodIn wsX12_losers wsX12_isOpen := goodIn_r _ [7, 1, 44, 45, 46, 47, 48, 49, 50, 51, 52, 53, 54, 55, 56, 57, 58, 59, 60, 61, 62, 63, 64, 65, 66, 67] (by decide +kernel) (by decide +kernel)
set_option maxRecDepth 20000 in
theorem gX12_losers_X12_isOpen : GoodIn wsX12_losers (wsV RX12 102 RX12 yX12_isOpen wsX12_isOpen) := goodIn_app (goodIn_of _ (by decide +kernel)) ggX12_losers_X12_isOpen
set_option maxRecDepth 20000 in
theorem ggX12_losers_X12_isFit : GoodIn wsX12_losers wsX12_isFit := goodIn_r _ [11, 1, 12, 13, 14, 15, 6, 16, 17, 18, 19, 20, 21, 22, 44, 45, 46, 47, 48, 49, 50, 51, 52, 53, 54, 55, 56, 57, 58, 59, 60, 61, 62, 63, 64, 65, 66, 67] (by decide +kernel) (by decide +kernel)
set_option maxRecDepth 20000 in
theorem gX12_losers_X12_isFit : GoodIn wsX12_losers (wsV RX12 154 RX12 yX12_isFit wsX12_isFit) := goodIn_app (goodIn_of _ (by decide +kernel)) ggX12_losers_X12_isFit
set_option maxRecDepth 20000 in
theorem ggX12_losers_X12_isIn : GoodIn wsX12_losers wsX12_isIn := goodIn_r _ [19] (by decide +kernel) (by decide +kernel)
set_option maxRecDepth 20000 in
theorem gX12_losers_X12_isIn : GoodIn wsX12_losers (va_wsS RX12 50 yX12_isIn wsX12_isIn) := goodIn_app (goodIn_of _ (by decide +kernel)) ggX12_losers_X12_isIn
set_option maxRecDepth 20000 in
theorem ggX12_losers_X12_findGain : GoodIn wsX12_losers wsX12_findGain := goodIn_r _ [26, 1, 27, 2, 28, 20, 21, 6, 22, 29, 30, 31, 32, 33, 34, 35, 36, 37, 38, 39, 40, 41, 42, 43, 44, 45, 46, 47, 48, 49, 50, 51, 52, 53, 54, 55, 56, 57, 58, 59, 60, 61, 62, 63, 64, 65, 66, 67] (by decide +kernel) (by decide +kernel)
set_option maxRecDepth 20000 in
theorem gX12_losers_X12_findGain : GoodIn wsX12_losers (wsV RX12 196 RX12 yX12_findGain wsX12_findGain) := goodIn_app (goodIn_of _ (by decide +kernel)) ggX12_losers_X12_findGain
theorem dX12_losers_0 : decode cX12_losers 0 = .ok (.aload_n 0, 1) := by decide +kernel
theorem dX12_losers_1 : decode cX12_losers 1 = .ok (.invokevirtual 102, 3) := by decide +kernel
theorem dX12_losers_4 : decode cX12_losers 4 = .ok (.ifCond .ne 6, 3) := by decide +kernel
theorem dX12_losers_7 : decode cX12_losers 7 = .ok (.bipush (-3), 2) := by decide +kernel
theorem dX12_losers_9 : decode cX12_losers 9 = .ok (.ireturn, 1) := by decide +kernel
theorem dX12_losers_10 : decode cX12_losers 10 = .ok (.aload_n 0, 1) := by decide +kernel
theorem dX12_losers_11 : decode cX12_losers 11 = .ok (.iload_n 1, 1) := by decide +kernel
theorem dX12_losers_12 : decode cX12_losers 12 = .ok (.invokevirtual 154, 3) := by decide +kernel
theorem dX12_losers_15 : decode cX12_losers 15 = .ok (.ifCond .eq 13, 3) := by decide +kernel
theorem dX12_losers_18 : decode cX12_losers 18 = .ok (.iload_n 2, 1) := by decide +kernel
theorem dX12_losers_19 : decode cX12_losers 19 = .ok (.i2l, 1) := by decide +kernel
theorem dX12_losers_20 : decode cX12_losers 20 = .ok (.lconst 0, 1) := by decide +kernel
theorem dX12_losers_21 : decode cX12_losers 21 = .ok (.lconst 1, 1) := by decide +kernel
theorem dX12_losers_22 : decode cX12_losers 22 = .ok (.invokestatic 50, 3) := by decide +kernel
theorem dX12_losers_25 : decode cX12_losers 25 = .ok (.ifCond .ne 5, 3) := by decide +kernel
theorem dX12_losers_28 : decode cX12_losers 28 = .ok (.iconst (-1), 1) := by decide +kernel
theorem dX12_losers_29 : decode cX12_losers 29 = .ok (.ireturn, 1) := by decide +kernel
theorem dX12_losers_30 : decode cX12_losers 30 = .ok (.iconst 0, 1) := by decide +kernel
theorem dX12_losers_31 : decode cX12_losers 31 = .ok (.istore_n 3, 1) := by decide +kernel
theorem dX12_losers_32 : decode cX12_losers 32 = .ok (.iconst 0, 1) := by decide +kernel
theorem dX12_losers_33 : decode cX12_losers 33 = .ok (.istore 4, 2) := by decide +kernel
theorem dX12_losers_35 : decode cX12_losers 35 = .ok (.iload 4, 2) := by decide +kernel
theorem dX12_losers_37 : decode cX12_losers 37 = .ok (.aload_n 0, 1) := by decide +kernel
theorem dX12_losers_38 : decode cX12_losers 38 = .ok (.getfield 9, 3) := by decide +kernel
theorem dX12_losers_41 : decode cX12_losers 41 = .ok (.iconst 0, 1) := by decide +kernel
theorem dX12_losers_42 : decode cX12_losers 42 = .ok (.iaload, 1) := by decide +kernel
theorem dX12_losers_43 : decode cX12_losers 43 = .ok (.if_icmp .ge 37, 3) := by decide +kernel
theorem dX12_losers_46 : decode cX12_losers 46 = .ok (.aload_n 0, 1) := by decide +kernel
theorem dX12_losers_47 : decode cX12_losers 47 = .ok (.iload_n 1, 1) := by decide +kernel
theorem dX12_losers_48 : decode cX12_losers 48 = .ok (.iload 4, 2) := by decide +kernel
theorem dX12_losers_50 : decode cX12_losers 50 = .ok (.iload_n 2, 1) := by decide +kernel
theorem dX12_losers_51 : decode cX12_losers 51 = .ok (.invokevirtual 196, 3) := by decide +kernel
theorem dX12_losers_54 : decode cX12_losers 54 = .ok (.iload_n 3, 1) := by decide +kernel
theorem dX12_losers_55 : decode cX12_losers 55 = .ok (.aload_n 0, 1) := by decide +kernel
theorem dX12_losers_56 : decode cX12_losers 56 = .ok (.getfield 129, 3) := by decide +kernel
theorem dX12_losers_59 : decode cX12_losers 59 = .ok (.lconst 0, 1) := by decide +kernel
theorem dX12_losers_60 : decode cX12_losers 60 = .ok (.lcmp, 1) := by decide +kernel
theorem dX12_losers_61 : decode cX12_losers 61 = .ok (.ifCond .ge 10, 3) := by decide +kernel
theorem dX12_losers_64 : decode cX12_losers 64 = .ok (.iconst 1, 1) := by decide +kernel
theorem dX12_losers_65 : decode cX12_losers 65 = .ok (.iload 4, 2) := by decide +kernel
theorem dX12_losers_67 : decode cX12_losers 67 = .ok (.ishl, 1) := by decide +kernel
theorem dX12_losers_68 : decode cX12_losers 68 = .ok (.goto 4, 3) := by decide +kernel
theorem dX12_losers_71 : decode cX12_losers 71 = .ok (.iconst 0, 1) := by decide +kernel
theorem dX12_losers_72 : decode cX12_losers 72 = .ok (.ior, 1) := by decide +kernel
theorem dX12_losers_73 : decode cX12_losers 73 = .ok (.istore_n 3, 1) := by decide +kernel
theorem dX12_losers_74 : decode cX12_losers 74 = .ok (.iinc 4 1, 3) := by decide +kernel
theorem dX12_losers_77 : decode cX12_losers 77 = .ok (.goto (-42), 3) := by decide +kernel
theorem dX12_losers_80 : decode cX12_losers 80 = .ok (.iload_n 3, 1) := by decide +kernel
theorem dX12_losers_81 : decode cX12_losers 81 = .ok (.ireturn, 1) := by decide +kernel
theorem dX12_lesser_0 : decode cX12_lesser 0 = .ok (.iload_n 0, 1) := by decide +kernel
theorem dX12_lesser_1 : decode cX12_lesser 1 = .ok (.iload_n 1, 1) := by decide +kernel
theorem dX12_lesser_2 : decode cX12_lesser 2 = .ok (.if_icmp .ge 7, 3) := by decide +kernel
theorem dX12_lesser_5 : decode cX12_lesser 5 = .ok (.iload_n 0, 1) := by decide +kernel
theorem dX12_lesser_6 : decode cX12_lesser 6 = .ok (.goto 4, 3) := by decide +kernel
theorem dX12_lesser_9 : decode cX12_lesser 9 = .ok (.iload_n 1, 1) := by decide +kernel
theorem dX12_lesser_10 : decode cX12_lesser 10 = .ok (.ireturn, 1) := by decide +kernel
set_option maxRecDepth 20000 in
theorem ggX12_inOne_X12_isOpen : GoodIn wsX12_inOne wsX12_isOpen := goodIn_r _ [6, 1, 17, 18, 19, 20, 21, 22, 23, 24, 25, 26, 27, 28, 29, 30, 31, 32, 33, 34, 35, 36, 37, 38, 39, 40] (by decide +kernel) (by decide +kernel)
set_option maxRecDepth 20000 in
theorem gX12_inOne_X12_isOpen : GoodIn wsX12_inOne (wsV RX12 102 RX12 yX12_isOpen wsX12_isOpen) := goodIn_app (goodIn_of _ (by decide +kernel)) ggX12_inOne_X12_isOpen
set_option maxRecDepth 20000 in
theorem ggX12_inOne_X12_isMark : GoodIn wsX12_inOne wsX12_isMark := goodIn_r _ [10, 1, 11, 12, 5, 13, 17, 18, 19, 20, 21, 22, 23, 24, 25, 26, 27, 28, 29, 30, 31, 32, 33, 34, 35, 36, 37, 38, 39, 40] (by decide +kernel) (by decide +kernel)
set_option maxRecDepth 20000 in
theorem gX12_inOne_X12_isMark : GoodIn wsX12_inOne (wsV RX12 110 RX12 yX12_isMark wsX12_isMark) := goodIn_app (goodIn_of _ (by decide +kernel)) ggX12_inOne_X12_isMark
set_option maxRecDepth 20000 in
theorem ggX12_inOne_X12_lesser : GoodIn wsX12_inOne wsX12_lesser := goodIn_r _ [16] (by decide +kernel) (by decide +kernel)
set_option maxRecDepth 20000 in
theorem gX12_inOne_X12_lesser : GoodIn wsX12_inOne (va_wsS RX12 199 yX12_lesser wsX12_lesser) := goodIn_app (goodIn_of _ (by decide +kernel)) ggX12_inOne_X12_lesser
theorem dX12_inOne_0 : decode cX12_inOne 0 = .ok (.aload_n 0, 1) := by decide +kernel
theorem dX12_inOne_1 : decode cX12_inOne 1 = .ok (.invokevirtual 102, 3) := by decide +kernel
theorem dX12_inOne_4 : decode cX12_inOne 4 = .ok (.ifCond .ne 6, 3) := by decide +kernel
theorem dX12_inOne_7 : decode cX12_inOne 7 = .ok (.bipush (-3), 2) := by decide +kernel
theorem dX12_inOne_9 : decode cX12_inOne 9 = .ok (.ireturn, 1) := by decide +kernel
theorem dX12_inOne_10 : decode cX12_inOne 10 = .ok (.aload_n 0, 1) := by decide +kernel
theorem dX12_inOne_11 : decode cX12_inOne 11 = .ok (.iload_n 1, 1) := by decide +kernel
theorem dX12_inOne_12 : decode cX12_inOne 12 = .ok (.invokevirtual 110, 3) := by decide +kernel
theorem dX12_inOne_15 : decode cX12_inOne 15 = .ok (.ifCond .eq 16, 3) := by decide +kernel
theorem dX12_inOne_18 : decode cX12_inOne 18 = .ok (.aload_n 0, 1) := by decide +kernel
theorem dX12_inOne_19 : decode cX12_inOne 19 = .ok (.iload_n 2, 1) := by decide +kernel
theorem dX12_inOne_20 : decode cX12_inOne 20 = .ok (.invokevirtual 110, 3) := by decide +kernel
theorem dX12_inOne_23 : decode cX12_inOne 23 = .ok (.ifCond .eq 8, 3) := by decide +kernel
theorem dX12_inOne_26 : decode cX12_inOne 26 = .ok (.iload_n 1, 1) := by decide +kernel
theorem dX12_inOne_27 : decode cX12_inOne 27 = .ok (.iload_n 2, 1) := by decide +kernel
theorem dX12_inOne_28 : decode cX12_inOne 28 = .ok (.if_icmp .ne 5, 3) := by decide +kernel
theorem dX12_inOne_31 : decode cX12_inOne 31 = .ok (.iconst (-1), 1) := by decide +kernel
theorem dX12_inOne_32 : decode cX12_inOne 32 = .ok (.ireturn, 1) := by decide +kernel
theorem dX12_inOne_33 : decode cX12_inOne 33 = .ok (.aload_n 0, 1) := by decide +kernel
theorem dX12_inOne_34 : decode cX12_inOne 34 = .ok (.getfield 9, 3) := by decide +kernel
theorem dX12_inOne_37 : decode cX12_inOne 37 = .ok (.iconst 1, 1) := by decide +kernel
theorem dX12_inOne_38 : decode cX12_inOne 38 = .ok (.iaload, 1) := by decide +kernel
theorem dX12_inOne_39 : decode cX12_inOne 39 = .ok (.istore_n 3, 1) := by decide +kernel
theorem dX12_inOne_40 : decode cX12_inOne 40 = .ok (.iload_n 3, 1) := by decide +kernel
theorem dX12_inOne_41 : decode cX12_inOne 41 = .ok (.iconst 4, 1) := by decide +kernel
theorem dX12_inOne_42 : decode cX12_inOne 42 = .ok (.if_icmp .ne 6, 3) := by decide +kernel
theorem dX12_inOne_45 : decode cX12_inOne 45 = .ok (.bipush (-2), 2) := by decide +kernel
theorem dX12_inOne_47 : decode cX12_inOne 47 = .ok (.ireturn, 1) := by decide +kernel
theorem dX12_inOne_48 : decode cX12_inOne 48 = .ok (.aload_n 0, 1) := by decide +kernel
theorem dX12_inOne_49 : decode cX12_inOne 49 = .ok (.getfield 9, 3) := by decide +kernel
theorem dX12_inOne_52 : decode cX12_inOne 52 = .ok (.bipush 15, 2) := by decide +kernel
theorem dX12_inOne_54 : decode cX12_inOne 54 = .ok (.iload_n 3, 1) := by decide +kernel
theorem dX12_inOne_55 : decode cX12_inOne 55 = .ok (.iadd, 1) := by decide +kernel
theorem dX12_inOne_56 : decode cX12_inOne 56 = .ok (.bipush 99, 2) := by decide +kernel
theorem dX12_inOne_58 : decode cX12_inOne 58 = .ok (.aload_n 0, 1) := by decide +kernel
theorem dX12_inOne_59 : decode cX12_inOne 59 = .ok (.getfield 9, 3) := by decide +kernel
theorem dX12_inOne_62 : decode cX12_inOne 62 = .ok (.bipush 15, 2) := by decide +kernel
theorem dX12_inOne_64 : decode cX12_inOne 64 = .ok (.iload_n 1, 1) := by decide +kernel
theorem dX12_inOne_65 : decode cX12_inOne 65 = .ok (.iadd, 1) := by decide +kernel
theorem dX12_inOne_66 : decode cX12_inOne 66 = .ok (.iaload, 1) := by decide +kernel
theorem dX12_inOne_67 : decode cX12_inOne 67 = .ok (.aload_n 0, 1) := by decide +kernel
theorem dX12_inOne_68 : decode cX12_inOne 68 = .ok (.getfield 9, 3) := by decide +kernel
theorem dX12_inOne_71 : decode cX12_inOne 71 = .ok (.bipush 15, 2) := by decide +kernel
theorem dX12_inOne_73 : decode cX12_inOne 73 = .ok (.iload_n 2, 1) := by decide +kernel
theorem dX12_inOne_74 : decode cX12_inOne 74 = .ok (.iadd, 1) := by decide +kernel
theorem dX12_inOne_75 : decode cX12_inOne 75 = .ok (.iaload, 1) := by decide +kernel
theorem dX12_inOne_76 : decode cX12_inOne 76 = .ok (.iadd, 1) := by decide +kernel
theorem dX12_inOne_77 : decode cX12_inOne 77 = .ok (.invokestatic 199, 3) := by decide +kernel
theorem dX12_inOne_80 : decode cX12_inOne 80 = .ok (.iastore, 1) := by decide +kernel
theorem dX12_inOne_81 : decode cX12_inOne 81 = .ok (.iconst 0, 1) := by decide +kernel
theorem dX12_inOne_82 : decode cX12_inOne 82 = .ok (.istore 4, 2) := by decide +kernel
theorem dX12_inOne_84 : decode cX12_inOne 84 = .ok (.iload 4, 2) := by decide +kernel
theorem dX12_inOne_86 : decode cX12_inOne 86 = .ok (.aload_n 0, 1) := by decide +kernel
theorem dX12_inOne_87 : decode cX12_inOne 87 = .ok (.getfield 9, 3) := by decide +kernel
theorem dX12_inOne_90 : decode cX12_inOne 90 = .ok (.iconst 0, 1) := by decide +kernel
theorem dX12_inOne_91 : decode cX12_inOne 91 = .ok (.iaload, 1) := by decide +kernel
theorem dX12_inOne_92 : decode cX12_inOne 92 = .ok (.if_icmp .ge 58, 3) := by decide +kernel
theorem dX12_inOne_95 : decode cX12_inOne 95 = .ok (.aload_n 0, 1) := by decide +kernel
theorem dX12_inOne_96 : decode cX12_inOne 96 = .ok (.getfield 9, 3) := by decide +kernel
theorem dX12_inOne_99 : decode cX12_inOne 99 = .ok (.bipush 19, 2) := by decide +kernel
theorem dX12_inOne_101 : decode cX12_inOne 101 = .ok (.iconst 4, 1) := by decide +kernel
theorem dX12_inOne_102 : decode cX12_inOne 102 = .ok (.iload_n 3, 1) := by decide +kernel
theorem dX12_inOne_103 : decode cX12_inOne 103 = .ok (.imul, 1) := by decide +kernel
theorem dX12_inOne_104 : decode cX12_inOne 104 = .ok (.iadd, 1) := by decide +kernel
theorem dX12_inOne_105 : decode cX12_inOne 105 = .ok (.iload 4, 2) := by decide +kernel
theorem dX12_inOne_107 : decode cX12_inOne 107 = .ok (.iadd, 1) := by decide +kernel
theorem dX12_inOne_108 : decode cX12_inOne 108 = .ok (.sipush 999, 3) := by decide +kernel
theorem dX12_inOne_111 : decode cX12_inOne 111 = .ok (.aload_n 0, 1) := by decide +kernel
theorem dX12_inOne_112 : decode cX12_inOne 112 = .ok (.getfield 9, 3) := by decide +kernel
theorem dX12_inOne_115 : decode cX12_inOne 115 = .ok (.bipush 19, 2) := by decide +kernel
theorem dX12_inOne_117 : decode cX12_inOne 117 = .ok (.iconst 4, 1) := by decide +kernel
theorem dX12_inOne_118 : decode cX12_inOne 118 = .ok (.iload_n 1, 1) := by decide +kernel
theorem dX12_inOne_119 : decode cX12_inOne 119 = .ok (.imul, 1) := by decide +kernel
theorem dX12_inOne_120 : decode cX12_inOne 120 = .ok (.iadd, 1) := by decide +kernel
theorem dX12_inOne_121 : decode cX12_inOne 121 = .ok (.iload 4, 2) := by decide +kernel
theorem dX12_inOne_123 : decode cX12_inOne 123 = .ok (.iadd, 1) := by decide +kernel
theorem dX12_inOne_124 : decode cX12_inOne 124 = .ok (.iaload, 1) := by decide +kernel
theorem dX12_inOne_125 : decode cX12_inOne 125 = .ok (.aload_n 0, 1) := by decide +kernel
theorem dX12_inOne_126 : decode cX12_inOne 126 = .ok (.getfield 9, 3) := by decide +kernel
theorem dX12_inOne_129 : decode cX12_inOne 129 = .ok (.bipush 19, 2) := by decide +kernel
theorem dX12_inOne_131 : decode cX12_inOne 131 = .ok (.iconst 4, 1) := by decide +kernel
theorem dX12_inOne_132 : decode cX12_inOne 132 = .ok (.iload_n 2, 1) := by decide +kernel
theorem dX12_inOne_133 : decode cX12_inOne 133 = .ok (.imul, 1) := by decide +kernel
theorem dX12_inOne_134 : decode cX12_inOne 134 = .ok (.iadd, 1) := by decide +kernel
theorem dX12_inOne_135 : decode cX12_inOne 135 = .ok (.iload 4, 2) := by decide +kernel
theorem dX12_inOne_137 : decode cX12_inOne 137 = .ok (.iadd, 1) := by decide +kernel
theorem dX12_inOne_138 : decode cX12_inOne 138 = .ok (.iaload, 1) := by decide +kernel
theorem dX12_inOne_139 : decode cX12_inOne 139 = .ok (.iadd, 1) := by decide +kernel
theorem dX12_inOne_140 : decode cX12_inOne 140 = .ok (.invokestatic 199, 3) := by decide +kernel
theorem dX12_inOne_143 : decode cX12_inOne 143 = .ok (.iastore, 1) := by decide +kernel
theorem dX12_inOne_144 : decode cX12_inOne 144 = .ok (.iinc 4 1, 3) := by decide +kernel
theorem dX12_inOne_147 : decode cX12_inOne 147 = .ok (.goto (-63), 3) := by decide +kernel
theorem dX12_inOne_150 : decode cX12_inOne 150 = .ok (.aload_n 0, 1) := by decide +kernel
theorem dX12_inOne_151 : decode cX12_inOne 151 = .ok (.getfield 9, 3) := by decide +kernel
theorem dX12_inOne_154 : decode cX12_inOne 154 = .ok (.bipush 35, 2) := by decide +kernel
theorem dX12_inOne_156 : decode cX12_inOne 156 = .ok (.iload_n 3, 1) := by decide +kernel
theorem dX12_inOne_157 : decode cX12_inOne 157 = .ok (.iadd, 1) := by decide +kernel
theorem dX12_inOne_158 : decode cX12_inOne 158 = .ok (.iconst 0, 1) := by decide +kernel
theorem dX12_inOne_159 : decode cX12_inOne 159 = .ok (.iastore, 1) := by decide +kernel
theorem dX12_inOne_160 : decode cX12_inOne 160 = .ok (.aload_n 0, 1) := by decide +kernel
theorem dX12_inOne_161 : decode cX12_inOne 161 = .ok (.getfield 9, 3) := by decide +kernel
theorem dX12_inOne_164 : decode cX12_inOne 164 = .ok (.iconst 1, 1) := by decide +kernel
theorem dX12_inOne_165 : decode cX12_inOne 165 = .ok (.dup2, 1) := by decide +kernel
theorem dX12_inOne_166 : decode cX12_inOne 166 = .ok (.iaload, 1) := by decide +kernel
theorem dX12_inOne_167 : decode cX12_inOne 167 = .ok (.iconst 1, 1) := by decide +kernel
theorem dX12_inOne_168 : decode cX12_inOne 168 = .ok (.iadd, 1) := by decide +kernel
theorem dX12_inOne_169 : decode cX12_inOne 169 = .ok (.iastore, 1) := by decide +kernel
theorem dX12_inOne_170 : decode cX12_inOne 170 = .ok (.iload_n 3, 1) := by decide +kernel
theorem dX12_inOne_171 : decode cX12_inOne 171 = .ok (.ireturn, 1) := by decide +kernel
set_option maxRecDepth 20000 in
theorem ggX12_bars_X12_isOpen : GoodIn wsX12_bars wsX12_isOpen := goodIn_r _ [7, 1, 56, 57, 58, 59, 60, 61, 62, 63, 64, 65, 66, 67, 68, 69, 70, 71, 72, 73, 74, 75, 76, 77, 78, 79] (by decide +kernel) (by decide +kernel)
set_option maxRecDepth 20000 in
theorem gX12_bars_X12_isOpen : GoodIn wsX12_bars (wsV RX12 102 RX12 yX12_isOpen wsX12_isOpen) := goodIn_app (goodIn_of _ (by decide +kernel)) ggX12_bars_X12_isOpen
set_option maxRecDepth 20000 in
theorem ggX12_bars_X12_isIn : GoodIn wsX12_bars wsX12_isIn := goodIn_r _ [10] (by decide +kernel) (by decide +kernel)
set_option maxRecDepth 20000 in
theorem gX12_bars_X12_isIn : GoodIn wsX12_bars (va_wsS RX12 50 yX12_isIn wsX12_isIn) := goodIn_app (goodIn_of _ (by decide +kernel)) ggX12_bars_X12_isIn
set_option maxRecDepth 20000 in
theorem ggX12_bars_X12_sure : GoodIn wsX12_bars wsX12_sure := goodIn_r _ [14, 15, 16, 17, 6, 18, 1, 19, 20, 21, 22, 23, 24, 25, 26, 2, 8, 9, 10, 27, 28, 29, 30, 31, 32, 33, 34, 35, 36, 37, 38, 39, 40, 41, 42, 43, 44, 45, 46, 47, 48, 49, 50, 51, 52, 53, 54, 55, 56, 57, 58, 59, 60, 61, 62, 63, 64, 65, 66, 67, 68, 69, 70, 71, 72, 73, 74, 75, 76, 77, 78, 79] (by decide +kernel) (by decide +kernel)
set_option maxRecDepth 20000 in
theorem gX12_bars_X12_sure : GoodIn wsX12_bars (wsV RX12 173 RX12 yX12_sure wsX12_sure) := goodIn_app (goodIn_of _ (by decide +kernel)) ggX12_bars_X12_sure
theorem dX12_bars_0 : decode cX12_bars 0 = .ok (.aload_n 0, 1) := by decide +kernel
theorem dX12_bars_1 : decode cX12_bars 1 = .ok (.invokevirtual 102, 3) := by decide +kernel
theorem dX12_bars_4 : decode cX12_bars 4 = .ok (.ifCond .ne 6, 3) := by decide +kernel
theorem dX12_bars_7 : decode cX12_bars 7 = .ok (.bipush (-3), 2) := by decide +kernel
theorem dX12_bars_9 : decode cX12_bars 9 = .ok (.ireturn, 1) := by decide +kernel
theorem dX12_bars_10 : decode cX12_bars 10 = .ok (.iload_n 1, 1) := by decide +kernel
theorem dX12_bars_11 : decode cX12_bars 11 = .ok (.i2l, 1) := by decide +kernel
theorem dX12_bars_12 : decode cX12_bars 12 = .ok (.lconst 0, 1) := by decide +kernel
theorem dX12_bars_13 : decode cX12_bars 13 = .ok (.iconst 1, 1) := by decide +kernel
theorem dX12_bars_14 : decode cX12_bars 14 = .ok (.aload_n 0, 1) := by decide +kernel
theorem dX12_bars_15 : decode cX12_bars 15 = .ok (.getfield 9, 3) := by decide +kernel
theorem dX12_bars_18 : decode cX12_bars 18 = .ok (.iconst 1, 1) := by decide +kernel
theorem dX12_bars_19 : decode cX12_bars 19 = .ok (.iaload, 1) := by decide +kernel
theorem dX12_bars_20 : decode cX12_bars 20 = .ok (.ishl, 1) := by decide +kernel
theorem dX12_bars_21 : decode cX12_bars 21 = .ok (.iconst 2, 1) := by decide +kernel
theorem dX12_bars_22 : decode cX12_bars 22 = .ok (.isub, 1) := by decide +kernel
theorem dX12_bars_23 : decode cX12_bars 23 = .ok (.i2l, 1) := by decide +kernel
theorem dX12_bars_24 : decode cX12_bars 24 = .ok (.invokestatic 50, 3) := by decide +kernel
theorem dX12_bars_27 : decode cX12_bars 27 = .ok (.ifCond .ne 5, 3) := by decide +kernel
theorem dX12_bars_30 : decode cX12_bars 30 = .ok (.iconst (-1), 1) := by decide +kernel
theorem dX12_bars_31 : decode cX12_bars 31 = .ok (.ireturn, 1) := by decide +kernel
theorem dX12_bars_32 : decode cX12_bars 32 = .ok (.aload_n 0, 1) := by decide +kernel
theorem dX12_bars_33 : decode cX12_bars 33 = .ok (.iload_n 1, 1) := by decide +kernel
theorem dX12_bars_34 : decode cX12_bars 34 = .ok (.putfield 126, 3) := by decide +kernel
theorem dX12_bars_37 : decode cX12_bars 37 = .ok (.aload_n 0, 1) := by decide +kernel
theorem dX12_bars_38 : decode cX12_bars 38 = .ok (.invokevirtual 173, 3) := by decide +kernel
theorem dX12_bars_41 : decode cX12_bars 41 = .ok (.istore_n 2, 1) := by decide +kernel
theorem dX12_bars_42 : decode cX12_bars 42 = .ok (.aload_n 0, 1) := by decide +kernel
theorem dX12_bars_43 : decode cX12_bars 43 = .ok (.iconst 0, 1) := by decide +kernel
theorem dX12_bars_44 : decode cX12_bars 44 = .ok (.putfield 126, 3) := by decide +kernel
theorem dX12_bars_47 : decode cX12_bars 47 = .ok (.iload_n 2, 1) := by decide +kernel
theorem dX12_bars_48 : decode cX12_bars 48 = .ok (.ireturn, 1) := by decide +kernel
set_option maxRecDepth 20000 in
theorem ggX12_leastWaste_X12_fits : GoodIn wsX12_leastWaste wsX12_fits := goodIn_r _ [5, 6, 52, 53, 54, 55, 56, 57, 58, 59, 60, 61, 62, 63, 64, 65, 66, 67, 68, 69, 70, 71, 72, 73, 74, 75] (by decide +kernel) (by decide +kernel)
set_option maxRecDepth 20000 in
theorem gX12_leastWaste_X12_fits : GoodIn wsX12_leastWaste (wsV RX12 120 RX12 yX12_fits wsX12_fits) := goodIn_app (goodIn_of _ (by decide +kernel)) ggX12_leastWaste_X12_fits
set_option maxRecDepth 20000 in
theorem ggX12_leastWaste_X12_isSure : GoodIn wsX12_leastWaste wsX12_isSure := goodIn_r _ [10, 11, 12, 13, 4, 14, 6, 15, 1, 2, 3, 5, 16, 17, 18, 19, 20, 21, 22, 23, 24, 25, 26, 27, 28, 29, 30, 31, 32, 33, 34, 35, 36, 37, 38, 39, 40, 41, 42, 43, 44, 45, 46, 47, 52, 53, 54, 55, 56, 57, 58, 59, 60, 61, 62, 63, 64, 65, 66, 67, 68, 69, 70, 71, 72, 73, 74, 75] (by decide +kernel) (by decide +kernel)
set_option maxRecDepth 20000 in
theorem gX12_leastWaste_X12_isSure : GoodIn wsX12_leastWaste (wsV RX12 170 RX12 yX12_isSure wsX12_isSure) := goodIn_app (goodIn_of _ (by decide +kernel)) ggX12_leastWaste_X12_isSure
set_option maxRecDepth 20000 in
theorem ggX12_leastWaste_X12_wasteOf : GoodIn wsX12_leastWaste wsX12_wasteOf := goodIn_r _ [51, 6, 19, 20, 4, 21, 52, 53, 54, 55, 56, 57, 58, 59, 60, 61, 62, 63, 64, 65, 66, 67, 68, 69, 70, 71, 72, 73, 74, 75] (by decide +kernel) (by decide +kernel)
set_option maxRecDepth 20000 in
theorem gX12_leastWaste_X12_wasteOf : GoodIn wsX12_leastWaste (wsV RX12 190 RX12 yX12_wasteOf wsX12_wasteOf) := goodIn_app (goodIn_of _ (by decide +kernel)) ggX12_leastWaste_X12_wasteOf
theorem dX12_leastWaste_0 : decode cX12_leastWaste 0 = .ok (.bipush (-4), 2) := by decide +kernel
theorem dX12_leastWaste_2 : decode cX12_leastWaste 2 = .ok (.istore_n 1, 1) := by decide +kernel
theorem dX12_leastWaste_3 : decode cX12_leastWaste 3 = .ok (.iconst 0, 1) := by decide +kernel
theorem dX12_leastWaste_4 : decode cX12_leastWaste 4 = .ok (.istore_n 2, 1) := by decide +kernel
theorem dX12_leastWaste_5 : decode cX12_leastWaste 5 = .ok (.iload_n 2, 1) := by decide +kernel
theorem dX12_leastWaste_6 : decode cX12_leastWaste 6 = .ok (.aload_n 0, 1) := by decide +kernel
theorem dX12_leastWaste_7 : decode cX12_leastWaste 7 = .ok (.invokevirtual 120, 3) := by decide +kernel
theorem dX12_leastWaste_10 : decode cX12_leastWaste 10 = .ok (.if_icmp .ge 36, 3) := by decide +kernel
theorem dX12_leastWaste_13 : decode cX12_leastWaste 13 = .ok (.aload_n 0, 1) := by decide +kernel
theorem dX12_leastWaste_14 : decode cX12_leastWaste 14 = .ok (.iload_n 2, 1) := by decide +kernel
theorem dX12_leastWaste_15 : decode cX12_leastWaste 15 = .ok (.invokevirtual 170, 3) := by decide +kernel
theorem dX12_leastWaste_18 : decode cX12_leastWaste 18 = .ok (.ifCond .eq 22, 3) := by decide +kernel
theorem dX12_leastWaste_21 : decode cX12_leastWaste 21 = .ok (.iload_n 1, 1) := by decide +kernel
theorem dX12_leastWaste_22 : decode cX12_leastWaste 22 = .ok (.ifCond .lt 12, 3) := by decide +kernel
theorem dX12_leastWaste_25 : decode cX12_leastWaste 25 = .ok (.aload_n 0, 1) := by decide +kernel
theorem dX12_leastWaste_26 : decode cX12_leastWaste 26 = .ok (.iload_n 2, 1) := by decide +kernel
theorem dX12_leastWaste_27 : decode cX12_leastWaste 27 = .ok (.invokevirtual 190, 3) := by decide +kernel
theorem dX12_leastWaste_30 : decode cX12_leastWaste 30 = .ok (.iload_n 1, 1) := by decide +kernel
theorem dX12_leastWaste_31 : decode cX12_leastWaste 31 = .ok (.if_icmp .ge 9, 3) := by decide +kernel
theorem dX12_leastWaste_34 : decode cX12_leastWaste 34 = .ok (.aload_n 0, 1) := by decide +kernel
theorem dX12_leastWaste_35 : decode cX12_leastWaste 35 = .ok (.iload_n 2, 1) := by decide +kernel
theorem dX12_leastWaste_36 : decode cX12_leastWaste 36 = .ok (.invokevirtual 190, 3) := by decide +kernel
theorem dX12_leastWaste_39 : decode cX12_leastWaste 39 = .ok (.istore_n 1, 1) := by decide +kernel
theorem dX12_leastWaste_40 : decode cX12_leastWaste 40 = .ok (.iinc 2 1, 3) := by decide +kernel
theorem dX12_leastWaste_43 : decode cX12_leastWaste 43 = .ok (.goto (-38), 3) := by decide +kernel
theorem dX12_leastWaste_46 : decode cX12_leastWaste 46 = .ok (.iload_n 1, 1) := by decide +kernel
theorem dX12_leastWaste_47 : decode cX12_leastWaste 47 = .ok (.ireturn, 1) := by decide +kernel
theorem dX12_bits_0 : decode cX12_bits 0 = .ok (.iconst 0, 1) := by decide +kernel
theorem dX12_bits_1 : decode cX12_bits 1 = .ok (.istore_n 1, 1) := by decide +kernel
theorem dX12_bits_2 : decode cX12_bits 2 = .ok (.iload_n 0, 1) := by decide +kernel
theorem dX12_bits_3 : decode cX12_bits 3 = .ok (.istore_n 2, 1) := by decide +kernel
theorem dX12_bits_4 : decode cX12_bits 4 = .ok (.iload_n 2, 1) := by decide +kernel
theorem dX12_bits_5 : decode cX12_bits 5 = .ok (.ifCond .le 16, 3) := by decide +kernel
theorem dX12_bits_8 : decode cX12_bits 8 = .ok (.iload_n 1, 1) := by decide +kernel
theorem dX12_bits_9 : decode cX12_bits 9 = .ok (.iload_n 2, 1) := by decide +kernel
theorem dX12_bits_10 : decode cX12_bits 10 = .ok (.iconst 1, 1) := by decide +kernel
theorem dX12_bits_11 : decode cX12_bits 11 = .ok (.iand, 1) := by decide +kernel
theorem dX12_bits_12 : decode cX12_bits 12 = .ok (.iadd, 1) := by decide +kernel
theorem dX12_bits_13 : decode cX12_bits 13 = .ok (.istore_n 1, 1) := by decide +kernel
theorem dX12_bits_14 : decode cX12_bits 14 = .ok (.iload_n 2, 1) := by decide +kernel
theorem dX12_bits_15 : decode cX12_bits 15 = .ok (.iconst 1, 1) := by decide +kernel
theorem dX12_bits_16 : decode cX12_bits 16 = .ok (.ishr, 1) := by decide +kernel
theorem dX12_bits_17 : decode cX12_bits 17 = .ok (.istore_n 2, 1) := by decide +kernel
theorem dX12_bits_18 : decode cX12_bits 18 = .ok (.goto (-14), 3) := by decide +kernel
theorem dX12_bits_21 : decode cX12_bits 21 = .ok (.iload_n 1, 1) := by decide +kernel
theorem dX12_bits_22 : decode cX12_bits 22 = .ok (.ireturn, 1) := by decide +kernel
set_option maxRecDepth 20000 in
theorem ggX12_leastBar_X12_isOpen : GoodIn wsX12_leastBar wsX12_isOpen := goodIn_r _ [7, 1, 63, 64, 65, 66, 67, 68, 69, 70, 71, 72, 73, 74, 75, 76, 77, 78, 79, 80, 81, 82, 83, 84, 85, 86] (by decide +kernel) (by decide +kernel)
set_option maxRecDepth 20000 in
theorem gX12_leastBar_X12_isOpen : GoodIn wsX12_leastBar (wsV RX12 102 RX12 yX12_isOpen wsX12_isOpen) := goodIn_app (goodIn_of _ (by decide +kernel)) ggX12_leastBar_X12_isOpen
set_option maxRecDepth 20000 in
theorem ggX12_leastBar_X12_isIn : GoodIn wsX12_leastBar wsX12_isIn := goodIn_r _ [10] (by decide +kernel) (by decide +kernel)
set_option maxRecDepth 20000 in
theorem gX12_leastBar_X12_isIn : GoodIn wsX12_leastBar (va_wsS RX12 50 yX12_isIn wsX12_isIn) := goodIn_app (goodIn_of _ (by decide +kernel)) ggX12_leastBar_X12_isIn
set_option maxRecDepth 20000 in
theorem ggX12_leastBar_X12_leastWaste : GoodIn wsX12_leastBar wsX12_leastWaste := goodIn_r _ [14, 15, 16, 17, 6, 18, 1, 19, 20, 21, 22, 23, 24, 25, 26, 2, 8, 9, 10, 27, 28, 29, 30, 31, 32, 33, 34, 35, 36, 37, 38, 39, 40, 41, 42, 43, 44, 45, 46, 47, 48, 49, 50, 51, 52, 53, 54, 55, 56, 57, 58, 59, 63, 64, 65, 66, 67, 68, 69, 70, 71, 72, 73, 74, 75, 76, 77, 78, 79, 80, 81, 82, 83, 84, 85, 86] (by decide +kernel) (by decide +kernel)
set_option maxRecDepth 20000 in
theorem gX12_leastBar_X12_leastWaste : GoodIn wsX12_leastBar (wsV RX12 202 RX12 yX12_leastWaste wsX12_leastWaste) := goodIn_app (goodIn_of _ (by decide +kernel)) ggX12_leastBar_X12_leastWaste
set_option maxRecDepth 20000 in
theorem ggX12_leastBar_X12_bits : GoodIn wsX12_leastBar wsX12_bits := goodIn_r _ [62] (by decide +kernel) (by decide +kernel)
set_option maxRecDepth 20000 in
theorem gX12_leastBar_X12_bits : GoodIn wsX12_leastBar (va_wsS RX12 205 yX12_bits wsX12_bits) := goodIn_app (goodIn_of _ (by decide +kernel)) ggX12_leastBar_X12_bits
theorem dX12_leastBar_0 : decode cX12_leastBar 0 = .ok (.aload_n 0, 1) := by decide +kernel
theorem dX12_leastBar_1 : decode cX12_leastBar 1 = .ok (.invokevirtual 102, 3) := by decide +kernel
theorem dX12_leastBar_4 : decode cX12_leastBar 4 = .ok (.ifCond .ne 6, 3) := by decide +kernel
theorem dX12_leastBar_7 : decode cX12_leastBar 7 = .ok (.bipush (-3), 2) := by decide +kernel
theorem dX12_leastBar_9 : decode cX12_leastBar 9 = .ok (.ireturn, 1) := by decide +kernel
theorem dX12_leastBar_10 : decode cX12_leastBar 10 = .ok (.iload_n 1, 1) := by decide +kernel
theorem dX12_leastBar_11 : decode cX12_leastBar 11 = .ok (.i2l, 1) := by decide +kernel
theorem dX12_leastBar_12 : decode cX12_leastBar 12 = .ok (.lconst 0, 1) := by decide +kernel
theorem dX12_leastBar_13 : decode cX12_leastBar 13 = .ok (.lconst 1, 1) := by decide +kernel
theorem dX12_leastBar_14 : decode cX12_leastBar 14 = .ok (.invokestatic 50, 3) := by decide +kernel
theorem dX12_leastBar_17 : decode cX12_leastBar 17 = .ok (.ifCond .ne 5, 3) := by decide +kernel
theorem dX12_leastBar_20 : decode cX12_leastBar 20 = .ok (.iconst (-1), 1) := by decide +kernel
theorem dX12_leastBar_21 : decode cX12_leastBar 21 = .ok (.ireturn, 1) := by decide +kernel
theorem dX12_leastBar_22 : decode cX12_leastBar 22 = .ok (.bipush (-4), 2) := by decide +kernel
theorem dX12_leastBar_24 : decode cX12_leastBar 24 = .ok (.istore_n 2, 1) := by decide +kernel
theorem dX12_leastBar_25 : decode cX12_leastBar 25 = .ok (.bipush (-4), 2) := by decide +kernel
theorem dX12_leastBar_27 : decode cX12_leastBar 27 = .ok (.istore_n 3, 1) := by decide +kernel
theorem dX12_leastBar_28 : decode cX12_leastBar 28 = .ok (.iconst 0, 1) := by decide +kernel
theorem dX12_leastBar_29 : decode cX12_leastBar 29 = .ok (.istore 4, 2) := by decide +kernel
theorem dX12_leastBar_31 : decode cX12_leastBar 31 = .ok (.iload 4, 2) := by decide +kernel
theorem dX12_leastBar_33 : decode cX12_leastBar 33 = .ok (.iconst 1, 1) := by decide +kernel
theorem dX12_leastBar_34 : decode cX12_leastBar 34 = .ok (.aload_n 0, 1) := by decide +kernel
theorem dX12_leastBar_35 : decode cX12_leastBar 35 = .ok (.getfield 9, 3) := by decide +kernel
theorem dX12_leastBar_38 : decode cX12_leastBar 38 = .ok (.iconst 1, 1) := by decide +kernel
theorem dX12_leastBar_39 : decode cX12_leastBar 39 = .ok (.iaload, 1) := by decide +kernel
theorem dX12_leastBar_40 : decode cX12_leastBar 40 = .ok (.ishl, 1) := by decide +kernel
theorem dX12_leastBar_41 : decode cX12_leastBar 41 = .ok (.iconst 1, 1) := by decide +kernel
theorem dX12_leastBar_42 : decode cX12_leastBar 42 = .ok (.isub, 1) := by decide +kernel
theorem dX12_leastBar_43 : decode cX12_leastBar 43 = .ok (.if_icmp .ge 63, 3) := by decide +kernel
theorem dX12_leastBar_46 : decode cX12_leastBar 46 = .ok (.aload_n 0, 1) := by decide +kernel
theorem dX12_leastBar_47 : decode cX12_leastBar 47 = .ok (.iload 4, 2) := by decide +kernel
theorem dX12_leastBar_49 : decode cX12_leastBar 49 = .ok (.putfield 126, 3) := by decide +kernel
theorem dX12_leastBar_52 : decode cX12_leastBar 52 = .ok (.aload_n 0, 1) := by decide +kernel
theorem dX12_leastBar_53 : decode cX12_leastBar 53 = .ok (.invokevirtual 202, 3) := by decide +kernel
theorem dX12_leastBar_56 : decode cX12_leastBar 56 = .ok (.istore 5, 2) := by decide +kernel
theorem dX12_leastBar_58 : decode cX12_leastBar 58 = .ok (.iload 5, 2) := by decide +kernel
theorem dX12_leastBar_60 : decode cX12_leastBar 60 = .ok (.ifCond .lt 40, 3) := by decide +kernel
theorem dX12_leastBar_63 : decode cX12_leastBar 63 = .ok (.iload_n 2, 1) := by decide +kernel
theorem dX12_leastBar_64 : decode cX12_leastBar 64 = .ok (.ifCond .lt 30, 3) := by decide +kernel
theorem dX12_leastBar_67 : decode cX12_leastBar 67 = .ok (.iload 5, 2) := by decide +kernel
theorem dX12_leastBar_69 : decode cX12_leastBar 69 = .ok (.iload_n 3, 1) := by decide +kernel
theorem dX12_leastBar_70 : decode cX12_leastBar 70 = .ok (.if_icmp .gt 30, 3) := by decide +kernel
theorem dX12_leastBar_73 : decode cX12_leastBar 73 = .ok (.iload 5, 2) := by decide +kernel
theorem dX12_leastBar_75 : decode cX12_leastBar 75 = .ok (.iload_n 3, 1) := by decide +kernel
theorem dX12_leastBar_76 : decode cX12_leastBar 76 = .ok (.if_icmp .ne 18, 3) := by decide +kernel
theorem dX12_leastBar_79 : decode cX12_leastBar 79 = .ok (.iload 4, 2) := by decide +kernel
theorem dX12_leastBar_81 : decode cX12_leastBar 81 = .ok (.invokestatic 205, 3) := by decide +kernel
theorem dX12_leastBar_84 : decode cX12_leastBar 84 = .ok (.iload_n 2, 1) := by decide +kernel
theorem dX12_leastBar_85 : decode cX12_leastBar 85 = .ok (.invokestatic 205, 3) := by decide +kernel
theorem dX12_leastBar_88 : decode cX12_leastBar 88 = .ok (.if_icmp .lt 6, 3) := by decide +kernel
theorem dX12_leastBar_91 : decode cX12_leastBar 91 = .ok (.goto 9, 3) := by decide +kernel
theorem dX12_leastBar_94 : decode cX12_leastBar 94 = .ok (.iload 4, 2) := by decide +kernel
theorem dX12_leastBar_96 : decode cX12_leastBar 96 = .ok (.istore_n 2, 1) := by decide +kernel
theorem dX12_leastBar_97 : decode cX12_leastBar 97 = .ok (.iload 5, 2) := by decide +kernel
theorem dX12_leastBar_99 : decode cX12_leastBar 99 = .ok (.istore_n 3, 1) := by decide +kernel
theorem dX12_leastBar_100 : decode cX12_leastBar 100 = .ok (.iinc 4 1, 3) := by decide +kernel
theorem dX12_leastBar_103 : decode cX12_leastBar 103 = .ok (.goto (-72), 3) := by decide +kernel
theorem dX12_leastBar_106 : decode cX12_leastBar 106 = .ok (.aload_n 0, 1) := by decide +kernel
theorem dX12_leastBar_107 : decode cX12_leastBar 107 = .ok (.iconst 0, 1) := by decide +kernel
theorem dX12_leastBar_108 : decode cX12_leastBar 108 = .ok (.putfield 126, 3) := by decide +kernel
theorem dX12_leastBar_111 : decode cX12_leastBar 111 = .ok (.iload_n 1, 1) := by decide +kernel
theorem dX12_leastBar_112 : decode cX12_leastBar 112 = .ok (.ifCond .ne 7, 3) := by decide +kernel
theorem dX12_leastBar_115 : decode cX12_leastBar 115 = .ok (.iload_n 2, 1) := by decide +kernel
theorem dX12_leastBar_116 : decode cX12_leastBar 116 = .ok (.goto 4, 3) := by decide +kernel
theorem dX12_leastBar_119 : decode cX12_leastBar 119 = .ok (.iload_n 3, 1) := by decide +kernel
theorem dX12_leastBar_120 : decode cX12_leastBar 120 = .ok (.ireturn, 1) := by decide +kernel
set_option maxRecDepth 20000 in
theorem ggX12_wrongLine_X12_wrongRow : GoodIn wsX12_wrongLine wsX12_wrongRow := goodIn_r _ [9, 10, 11, 12, 13, 8, 14, 15, 16, 17, 18, 19, 20, 21, 22, 23, 24, 25, 26, 27, 28, 29, 30, 31, 32, 33, 34, 35, 36, 37, 38, 39, 40, 41, 42] (by decide +kernel) (by decide +kernel)
set_option maxRecDepth 20000 in
theorem gX12_wrongLine_X12_wrongRow : GoodIn wsX12_wrongLine (wsV RX12 92 RX12 yX12_wrongRow wsX12_wrongRow) := goodIn_app (goodIn_of _ (by decide +kernel)) ggX12_wrongLine_X12_wrongRow
set_option maxRecDepth 20000 in
theorem ggX12_wrongLine_X12_isIn : GoodIn wsX12_wrongLine wsX12_isIn := goodIn_r _ [18] (by decide +kernel) (by decide +kernel)
set_option maxRecDepth 20000 in
theorem gX12_wrongLine_X12_isIn : GoodIn wsX12_wrongLine (va_wsS RX12 50 yX12_isIn wsX12_isIn) := goodIn_app (goodIn_of _ (by decide +kernel)) ggX12_wrongLine_X12_isIn
theorem dX12_wrongLine_0 : decode cX12_wrongLine 0 = .ok (.aload_n 0, 1) := by decide +kernel
theorem dX12_wrongLine_1 : decode cX12_wrongLine 1 = .ok (.iload_n 1, 1) := by decide +kernel
theorem dX12_wrongLine_2 : decode cX12_wrongLine 2 = .ok (.iconst 1, 1) := by decide +kernel
theorem dX12_wrongLine_3 : decode cX12_wrongLine 3 = .ok (.invokevirtual 92, 3) := by decide +kernel
theorem dX12_wrongLine_6 : decode cX12_wrongLine 6 = .ok (.istore_n 2, 1) := by decide +kernel
theorem dX12_wrongLine_7 : decode cX12_wrongLine 7 = .ok (.iload_n 2, 1) := by decide +kernel
theorem dX12_wrongLine_8 : decode cX12_wrongLine 8 = .ok (.ifCond .eq 5, 3) := by decide +kernel
theorem dX12_wrongLine_11 : decode cX12_wrongLine 11 = .ok (.iload_n 2, 1) := by decide +kernel
theorem dX12_wrongLine_12 : decode cX12_wrongLine 12 = .ok (.ireturn, 1) := by decide +kernel
theorem dX12_wrongLine_13 : decode cX12_wrongLine 13 = .ok (.aload_n 0, 1) := by decide +kernel
theorem dX12_wrongLine_14 : decode cX12_wrongLine 14 = .ok (.getfield 25, 3) := by decide +kernel
theorem dX12_wrongLine_17 : decode cX12_wrongLine 17 = .ok (.iload_n 1, 1) := by decide +kernel
theorem dX12_wrongLine_18 : decode cX12_wrongLine 18 = .ok (.iaload, 1) := by decide +kernel
theorem dX12_wrongLine_19 : decode cX12_wrongLine 19 = .ok (.aload_n 0, 1) := by decide +kernel
theorem dX12_wrongLine_20 : decode cX12_wrongLine 20 = .ok (.getfield 9, 3) := by decide +kernel
theorem dX12_wrongLine_23 : decode cX12_wrongLine 23 = .ok (.iconst 1, 1) := by decide +kernel
theorem dX12_wrongLine_24 : decode cX12_wrongLine 24 = .ok (.iaload, 1) := by decide +kernel
theorem dX12_wrongLine_25 : decode cX12_wrongLine 25 = .ok (.if_icmp .eq 6, 3) := by decide +kernel
theorem dX12_wrongLine_28 : decode cX12_wrongLine 28 = .ok (.bipush (-13), 2) := by decide +kernel
theorem dX12_wrongLine_30 : decode cX12_wrongLine 30 = .ok (.ireturn, 1) := by decide +kernel
theorem dX12_wrongLine_31 : decode cX12_wrongLine 31 = .ok (.iconst 0, 1) := by decide +kernel
theorem dX12_wrongLine_32 : decode cX12_wrongLine 32 = .ok (.istore_n 3, 1) := by decide +kernel
theorem dX12_wrongLine_33 : decode cX12_wrongLine 33 = .ok (.iload_n 3, 1) := by decide +kernel
theorem dX12_wrongLine_34 : decode cX12_wrongLine 34 = .ok (.aload_n 0, 1) := by decide +kernel
theorem dX12_wrongLine_35 : decode cX12_wrongLine 35 = .ok (.getfield 25, 3) := by decide +kernel
theorem dX12_wrongLine_38 : decode cX12_wrongLine 38 = .ok (.iload_n 1, 1) := by decide +kernel
theorem dX12_wrongLine_39 : decode cX12_wrongLine 39 = .ok (.iaload, 1) := by decide +kernel
theorem dX12_wrongLine_40 : decode cX12_wrongLine 40 = .ok (.if_icmp .ge 34, 3) := by decide +kernel
theorem dX12_wrongLine_43 : decode cX12_wrongLine 43 = .ok (.aload_n 0, 1) := by decide +kernel
theorem dX12_wrongLine_44 : decode cX12_wrongLine 44 = .ok (.getfield 28, 3) := by decide +kernel
theorem dX12_wrongLine_47 : decode cX12_wrongLine 47 = .ok (.bipush 120, 2) := by decide +kernel
theorem dX12_wrongLine_49 : decode cX12_wrongLine 49 = .ok (.iload_n 1, 1) := by decide +kernel
theorem dX12_wrongLine_50 : decode cX12_wrongLine 50 = .ok (.imul, 1) := by decide +kernel
theorem dX12_wrongLine_51 : decode cX12_wrongLine 51 = .ok (.iload_n 3, 1) := by decide +kernel
theorem dX12_wrongLine_52 : decode cX12_wrongLine 52 = .ok (.iadd, 1) := by decide +kernel
theorem dX12_wrongLine_53 : decode cX12_wrongLine 53 = .ok (.iaload, 1) := by decide +kernel
theorem dX12_wrongLine_54 : decode cX12_wrongLine 54 = .ok (.i2l, 1) := by decide +kernel
theorem dX12_wrongLine_55 : decode cX12_wrongLine 55 = .ok (.lconst 0, 1) := by decide +kernel
theorem dX12_wrongLine_56 : decode cX12_wrongLine 56 = .ok (.ldc2_w 208, 3) := by decide +kernel
theorem dX12_wrongLine_59 : decode cX12_wrongLine 59 = .ok (.invokestatic 50, 3) := by decide +kernel
theorem dX12_wrongLine_62 : decode cX12_wrongLine 62 = .ok (.ifCond .ne 6, 3) := by decide +kernel
theorem dX12_wrongLine_65 : decode cX12_wrongLine 65 = .ok (.bipush (-13), 2) := by decide +kernel
theorem dX12_wrongLine_67 : decode cX12_wrongLine 67 = .ok (.ireturn, 1) := by decide +kernel
theorem dX12_wrongLine_68 : decode cX12_wrongLine 68 = .ok (.iinc 3 1, 3) := by decide +kernel
theorem dX12_wrongLine_71 : decode cX12_wrongLine 71 = .ok (.goto (-38), 3) := by decide +kernel
theorem dX12_wrongLine_74 : decode cX12_wrongLine 74 = .ok (.iconst 0, 1) := by decide +kernel
theorem dX12_wrongLine_75 : decode cX12_wrongLine 75 = .ok (.ireturn, 1) := by decide +kernel
theorem dX12_byLine_0 : decode cX12_byLine 0 = .ok (.iload_n 3, 1) := by decide +kernel
theorem dX12_byLine_1 : decode cX12_byLine 1 = .ok (.iconst 4, 1) := by decide +kernel
theorem dX12_byLine_2 : decode cX12_byLine 2 = .ok (.if_icmp .ne 15, 3) := by decide +kernel
theorem dX12_byLine_5 : decode cX12_byLine 5 = .ok (.aload_n 0, 1) := by decide +kernel
theorem dX12_byLine_6 : decode cX12_byLine 6 = .ok (.getfield 9, 3) := by decide +kernel
theorem dX12_byLine_9 : decode cX12_byLine 9 = .ok (.bipush 11, 2) := by decide +kernel
theorem dX12_byLine_11 : decode cX12_byLine 11 = .ok (.iload_n 2, 1) := by decide +kernel
theorem dX12_byLine_12 : decode cX12_byLine 12 = .ok (.iadd, 1) := by decide +kernel
theorem dX12_byLine_13 : decode cX12_byLine 13 = .ok (.iaload, 1) := by decide +kernel
theorem dX12_byLine_14 : decode cX12_byLine 14 = .ok (.goto 28, 3) := by decide +kernel
theorem dX12_byLine_17 : decode cX12_byLine 17 = .ok (.aload_n 0, 1) := by decide +kernel
theorem dX12_byLine_18 : decode cX12_byLine 18 = .ok (.getfield 28, 3) := by decide +kernel
theorem dX12_byLine_21 : decode cX12_byLine 21 = .ok (.bipush 120, 2) := by decide +kernel
theorem dX12_byLine_23 : decode cX12_byLine 23 = .ok (.iload_n 1, 1) := by decide +kernel
theorem dX12_byLine_24 : decode cX12_byLine 24 = .ok (.imul, 1) := by decide +kernel
theorem dX12_byLine_25 : decode cX12_byLine 25 = .ok (.iload_n 3, 1) := by decide +kernel
theorem dX12_byLine_26 : decode cX12_byLine 26 = .ok (.iadd, 1) := by decide +kernel
theorem dX12_byLine_27 : decode cX12_byLine 27 = .ok (.iaload, 1) := by decide +kernel
theorem dX12_byLine_28 : decode cX12_byLine 28 = .ok (.aload_n 0, 1) := by decide +kernel
theorem dX12_byLine_29 : decode cX12_byLine 29 = .ok (.getfield 9, 3) := by decide +kernel
theorem dX12_byLine_32 : decode cX12_byLine 32 = .ok (.bipush 19, 2) := by decide +kernel
theorem dX12_byLine_34 : decode cX12_byLine 34 = .ok (.iconst 4, 1) := by decide +kernel
theorem dX12_byLine_35 : decode cX12_byLine 35 = .ok (.iload_n 3, 1) := by decide +kernel
theorem dX12_byLine_36 : decode cX12_byLine 36 = .ok (.imul, 1) := by decide +kernel
theorem dX12_byLine_37 : decode cX12_byLine 37 = .ok (.iadd, 1) := by decide +kernel
theorem dX12_byLine_38 : decode cX12_byLine 38 = .ok (.iload_n 2, 1) := by decide +kernel
theorem dX12_byLine_39 : decode cX12_byLine 39 = .ok (.iadd, 1) := by decide +kernel
theorem dX12_byLine_40 : decode cX12_byLine 40 = .ok (.iaload, 1) := by decide +kernel
theorem dX12_byLine_41 : decode cX12_byLine 41 = .ok (.isub, 1) := by decide +kernel
theorem dX12_byLine_42 : decode cX12_byLine 42 = .ok (.ireturn, 1) := by decide +kernel
set_option maxRecDepth 20000 in
theorem ggX12_makesBy_X12_byLine : GoodIn wsX12_makesBy wsX12_byLine := goodIn_r _ [6, 1, 7, 8, 9, 10, 11, 12, 13, 14, 15, 16, 17, 18, 19, 20, 21, 22, 23, 24, 25, 26, 27, 28, 29, 30, 31] (by decide +kernel) (by decide +kernel)
set_option maxRecDepth 20000 in
theorem gX12_makesBy_X12_byLine : GoodIn wsX12_makesBy (wsV RX12 210 RX12 yX12_byLine wsX12_byLine) := goodIn_app (goodIn_of _ (by decide +kernel)) ggX12_makesBy_X12_byLine
theorem dX12_makesBy_0 : decode cX12_makesBy 0 = .ok (.iconst 0, 1) := by decide +kernel
theorem dX12_makesBy_1 : decode cX12_makesBy 1 = .ok (.istore_n 3, 1) := by decide +kernel
theorem dX12_makesBy_2 : decode cX12_makesBy 2 = .ok (.iconst 1, 1) := by decide +kernel
theorem dX12_makesBy_3 : decode cX12_makesBy 3 = .ok (.istore 4, 2) := by decide +kernel
theorem dX12_makesBy_5 : decode cX12_makesBy 5 = .ok (.iload 4, 2) := by decide +kernel
theorem dX12_makesBy_7 : decode cX12_makesBy 7 = .ok (.aload_n 0, 1) := by decide +kernel
theorem dX12_makesBy_8 : decode cX12_makesBy 8 = .ok (.getfield 9, 3) := by decide +kernel
theorem dX12_makesBy_11 : decode cX12_makesBy 11 = .ok (.iconst 1, 1) := by decide +kernel
theorem dX12_makesBy_12 : decode cX12_makesBy 12 = .ok (.iaload, 1) := by decide +kernel
theorem dX12_makesBy_13 : decode cX12_makesBy 13 = .ok (.if_icmp .ge 34, 3) := by decide +kernel
theorem dX12_makesBy_16 : decode cX12_makesBy 16 = .ok (.aload_n 0, 1) := by decide +kernel
theorem dX12_makesBy_17 : decode cX12_makesBy 17 = .ok (.iload_n 1, 1) := by decide +kernel
theorem dX12_makesBy_18 : decode cX12_makesBy 18 = .ok (.iload_n 2, 1) := by decide +kernel
theorem dX12_makesBy_19 : decode cX12_makesBy 19 = .ok (.iload 4, 2) := by decide +kernel
theorem dX12_makesBy_21 : decode cX12_makesBy 21 = .ok (.invokevirtual 210, 3) := by decide +kernel
theorem dX12_makesBy_24 : decode cX12_makesBy 24 = .ok (.aload_n 0, 1) := by decide +kernel
theorem dX12_makesBy_25 : decode cX12_makesBy 25 = .ok (.iload_n 1, 1) := by decide +kernel
theorem dX12_makesBy_26 : decode cX12_makesBy 26 = .ok (.iload_n 2, 1) := by decide +kernel
theorem dX12_makesBy_27 : decode cX12_makesBy 27 = .ok (.iload_n 3, 1) := by decide +kernel
theorem dX12_makesBy_28 : decode cX12_makesBy 28 = .ok (.invokevirtual 210, 3) := by decide +kernel
theorem dX12_makesBy_31 : decode cX12_makesBy 31 = .ok (.if_icmp .le 8, 3) := by decide +kernel
theorem dX12_makesBy_34 : decode cX12_makesBy 34 = .ok (.iload 4, 2) := by decide +kernel
theorem dX12_makesBy_36 : decode cX12_makesBy 36 = .ok (.goto 4, 3) := by decide +kernel
theorem dX12_makesBy_39 : decode cX12_makesBy 39 = .ok (.iload_n 3, 1) := by decide +kernel
theorem dX12_makesBy_40 : decode cX12_makesBy 40 = .ok (.istore_n 3, 1) := by decide +kernel
theorem dX12_makesBy_41 : decode cX12_makesBy 41 = .ok (.iinc 4 1, 3) := by decide +kernel
theorem dX12_makesBy_44 : decode cX12_makesBy 44 = .ok (.goto (-39), 3) := by decide +kernel
theorem dX12_makesBy_47 : decode cX12_makesBy 47 = .ok (.aload_n 0, 1) := by decide +kernel
theorem dX12_makesBy_48 : decode cX12_makesBy 48 = .ok (.getfield 9, 3) := by decide +kernel
theorem dX12_makesBy_51 : decode cX12_makesBy 51 = .ok (.bipush 11, 2) := by decide +kernel
theorem dX12_makesBy_53 : decode cX12_makesBy 53 = .ok (.iload_n 2, 1) := by decide +kernel
theorem dX12_makesBy_54 : decode cX12_makesBy 54 = .ok (.iadd, 1) := by decide +kernel
theorem dX12_makesBy_55 : decode cX12_makesBy 55 = .ok (.iaload, 1) := by decide +kernel
theorem dX12_makesBy_56 : decode cX12_makesBy 56 = .ok (.aload_n 0, 1) := by decide +kernel
theorem dX12_makesBy_57 : decode cX12_makesBy 57 = .ok (.iload_n 1, 1) := by decide +kernel
theorem dX12_makesBy_58 : decode cX12_makesBy 58 = .ok (.iload_n 2, 1) := by decide +kernel
theorem dX12_makesBy_59 : decode cX12_makesBy 59 = .ok (.iload_n 3, 1) := by decide +kernel
theorem dX12_makesBy_60 : decode cX12_makesBy 60 = .ok (.invokevirtual 210, 3) := by decide +kernel
theorem dX12_makesBy_63 : decode cX12_makesBy 63 = .ok (.if_icmp .le 7, 3) := by decide +kernel
theorem dX12_makesBy_66 : decode cX12_makesBy 66 = .ok (.iconst 4, 1) := by decide +kernel
theorem dX12_makesBy_67 : decode cX12_makesBy 67 = .ok (.goto 4, 3) := by decide +kernel
theorem dX12_makesBy_70 : decode cX12_makesBy 70 = .ok (.iload_n 3, 1) := by decide +kernel
theorem dX12_makesBy_71 : decode cX12_makesBy 71 = .ok (.ireturn, 1) := by decide +kernel
set_option maxRecDepth 20000 in
theorem ggX12_makes_X12_isOpen : GoodIn wsX12_makes wsX12_isOpen := goodIn_r _ [5, 6, 39, 40, 41, 42, 43, 44, 45, 46, 47, 48, 49, 50, 51, 52, 53, 54, 55, 56, 57, 58, 59, 60, 61, 62] (by decide +kernel) (by decide +kernel)
set_option maxRecDepth 20000 in
theorem gX12_makes_X12_isOpen : GoodIn wsX12_makes (wsV RX12 102 RX12 yX12_isOpen wsX12_isOpen) := goodIn_app (goodIn_of _ (by decide +kernel)) ggX12_makes_X12_isOpen
set_option maxRecDepth 20000 in
theorem ggX12_makes_X12_isShelf : GoodIn wsX12_makes wsX12_isShelf := goodIn_r _ [9, 10, 11, 12, 4, 13] (by decide +kernel) (by decide +kernel)
set_option maxRecDepth 20000 in
theorem gX12_makes_X12_isShelf : GoodIn wsX12_makes (va_wsS RX12 89 yX12_isShelf wsX12_isShelf) := goodIn_app (goodIn_of _ (by decide +kernel)) ggX12_makes_X12_isShelf
set_option maxRecDepth 20000 in
theorem ggX12_makes_X12_isSort : GoodIn wsX12_makes wsX12_isSort := goodIn_r _ [17, 6, 11, 12, 4, 13, 39, 40, 41, 42, 43, 44, 45, 46, 47, 48, 49, 50, 51, 52, 53, 54, 55, 56, 57, 58, 59, 60, 61, 62] (by decide +kernel) (by decide +kernel)
set_option maxRecDepth 20000 in
theorem gX12_makes_X12_isSort : GoodIn wsX12_makes (wsV RX12 105 RX12 yX12_isSort wsX12_isSort) := goodIn_app (goodIn_of _ (by decide +kernel)) ggX12_makes_X12_isSort
set_option maxRecDepth 20000 in
theorem ggX12_makes_X12_wrongLine : GoodIn wsX12_makes wsX12_wrongLine := goodIn_r _ [21, 22, 6, 23, 24, 25, 26, 27, 4, 28, 29, 30, 7, 8, 9, 10, 11, 12, 13, 39, 40, 41, 42, 43, 44, 45, 46, 47, 48, 49, 50, 51, 52, 53, 54, 55, 56, 57, 58, 59, 60, 61, 62] (by decide +kernel) (by decide +kernel)
set_option maxRecDepth 20000 in
theorem gX12_makes_X12_wrongLine : GoodIn wsX12_makes (wsV RX12 214 RX12 yX12_wrongLine wsX12_wrongLine) := goodIn_app (goodIn_of _ (by decide +kernel)) ggX12_makes_X12_wrongLine
set_option maxRecDepth 20000 in
theorem ggX12_makes_X12_makesBy : GoodIn wsX12_makes wsX12_makesBy := goodIn_r _ [34, 6, 35, 36, 37, 4, 38, 23, 39, 40, 41, 42, 43, 44, 45, 46, 47, 48, 49, 50, 51, 52, 53, 54, 55, 56, 57, 58, 59, 60, 61, 62] (by decide +kernel) (by decide +kernel)
set_option maxRecDepth 20000 in
theorem gX12_makes_X12_makesBy : GoodIn wsX12_makes (wsV RX12 217 RX12 yX12_makesBy wsX12_makesBy) := goodIn_app (goodIn_of _ (by decide +kernel)) ggX12_makes_X12_makesBy
theorem dX12_makes_0 : decode cX12_makes 0 = .ok (.aload_n 0, 1) := by decide +kernel
theorem dX12_makes_1 : decode cX12_makes 1 = .ok (.invokevirtual 102, 3) := by decide +kernel
theorem dX12_makes_4 : decode cX12_makes 4 = .ok (.ifCond .ne 6, 3) := by decide +kernel
theorem dX12_makes_7 : decode cX12_makes 7 = .ok (.bipush (-3), 2) := by decide +kernel
theorem dX12_makes_9 : decode cX12_makes 9 = .ok (.ireturn, 1) := by decide +kernel
theorem dX12_makes_10 : decode cX12_makes 10 = .ok (.iload_n 1, 1) := by decide +kernel
theorem dX12_makes_11 : decode cX12_makes 11 = .ok (.invokestatic 89, 3) := by decide +kernel
theorem dX12_makes_14 : decode cX12_makes 14 = .ok (.ifCond .eq 11, 3) := by decide +kernel
theorem dX12_makes_17 : decode cX12_makes 17 = .ok (.aload_n 0, 1) := by decide +kernel
theorem dX12_makes_18 : decode cX12_makes 18 = .ok (.iload_n 2, 1) := by decide +kernel
theorem dX12_makes_19 : decode cX12_makes 19 = .ok (.invokevirtual 105, 3) := by decide +kernel
theorem dX12_makes_22 : decode cX12_makes 22 = .ok (.ifCond .ne 5, 3) := by decide +kernel
theorem dX12_makes_25 : decode cX12_makes 25 = .ok (.iconst (-1), 1) := by decide +kernel
theorem dX12_makes_26 : decode cX12_makes 26 = .ok (.ireturn, 1) := by decide +kernel
theorem dX12_makes_27 : decode cX12_makes 27 = .ok (.aload_n 0, 1) := by decide +kernel
theorem dX12_makes_28 : decode cX12_makes 28 = .ok (.iload_n 1, 1) := by decide +kernel
theorem dX12_makes_29 : decode cX12_makes 29 = .ok (.invokevirtual 214, 3) := by decide +kernel
theorem dX12_makes_32 : decode cX12_makes 32 = .ok (.istore_n 3, 1) := by decide +kernel
theorem dX12_makes_33 : decode cX12_makes 33 = .ok (.iload_n 3, 1) := by decide +kernel
theorem dX12_makes_34 : decode cX12_makes 34 = .ok (.ifCond .eq 7, 3) := by decide +kernel
theorem dX12_makes_37 : decode cX12_makes 37 = .ok (.iload_n 3, 1) := by decide +kernel
theorem dX12_makes_38 : decode cX12_makes 38 = .ok (.goto 9, 3) := by decide +kernel
theorem dX12_makes_41 : decode cX12_makes 41 = .ok (.aload_n 0, 1) := by decide +kernel
theorem dX12_makes_42 : decode cX12_makes 42 = .ok (.iload_n 1, 1) := by decide +kernel
theorem dX12_makes_43 : decode cX12_makes 43 = .ok (.iload_n 2, 1) := by decide +kernel
theorem dX12_makes_44 : decode cX12_makes 44 = .ok (.invokevirtual 217, 3) := by decide +kernel
theorem dX12_makes_47 : decode cX12_makes 47 = .ok (.ireturn, 1) := by decide +kernel
set_option maxRecDepth 20000 in
theorem ggX12_loses_X12_isOpen : GoodIn wsX12_loses wsX12_isOpen := goodIn_r _ [7, 1, 35, 36, 37, 38, 39, 40, 41, 42, 43, 44, 45, 46, 47, 48, 49, 50, 51, 52, 53, 54, 55, 56, 57, 58] (by decide +kernel) (by decide +kernel)
set_option maxRecDepth 20000 in
theorem gX12_loses_X12_isOpen : GoodIn wsX12_loses (wsV RX12 102 RX12 yX12_isOpen wsX12_isOpen) := goodIn_app (goodIn_of _ (by decide +kernel)) ggX12_loses_X12_isOpen
set_option maxRecDepth 20000 in
theorem ggX12_loses_X12_wrongLine : GoodIn wsX12_loses wsX12_wrongLine := goodIn_r _ [11, 12, 1, 2, 13, 14, 15, 16, 6, 17, 18, 19, 20, 21, 22, 23, 24, 25, 26, 35, 36, 37, 38, 39, 40, 41, 42, 43, 44, 45, 46, 47, 48, 49, 50, 51, 52, 53, 54, 55, 56, 57, 58] (by decide +kernel) (by decide +kernel)
set_option maxRecDepth 20000 in
theorem gX12_loses_X12_wrongLine : GoodIn wsX12_loses (wsV RX12 214 RX12 yX12_wrongLine wsX12_wrongLine) := goodIn_app (goodIn_of _ (by decide +kernel)) ggX12_loses_X12_wrongLine
set_option maxRecDepth 20000 in
theorem ggX12_loses_X12_makesBy : GoodIn wsX12_loses wsX12_makesBy := goodIn_r _ [30, 1, 31, 32, 33, 6, 34, 2, 35, 36, 37, 38, 39, 40, 41, 42, 43, 44, 45, 46, 47, 48, 49, 50, 51, 52, 53, 54, 55, 56, 57, 58] (by decide +kernel) (by decide +kernel)
set_option maxRecDepth 20000 in
theorem gX12_loses_X12_makesBy : GoodIn wsX12_loses (wsV RX12 217 RX12 yX12_makesBy wsX12_makesBy) := goodIn_app (goodIn_of _ (by decide +kernel)) ggX12_loses_X12_makesBy
theorem dX12_loses_0 : decode cX12_loses 0 = .ok (.aload_n 0, 1) := by decide +kernel
theorem dX12_loses_1 : decode cX12_loses 1 = .ok (.invokevirtual 102, 3) := by decide +kernel
theorem dX12_loses_4 : decode cX12_loses 4 = .ok (.ifCond .ne 6, 3) := by decide +kernel
theorem dX12_loses_7 : decode cX12_loses 7 = .ok (.bipush (-3), 2) := by decide +kernel
theorem dX12_loses_9 : decode cX12_loses 9 = .ok (.ireturn, 1) := by decide +kernel
theorem dX12_loses_10 : decode cX12_loses 10 = .ok (.aload_n 0, 1) := by decide +kernel
theorem dX12_loses_11 : decode cX12_loses 11 = .ok (.iload_n 1, 1) := by decide +kernel
theorem dX12_loses_12 : decode cX12_loses 12 = .ok (.invokevirtual 214, 3) := by decide +kernel
theorem dX12_loses_15 : decode cX12_loses 15 = .ok (.istore_n 2, 1) := by decide +kernel
theorem dX12_loses_16 : decode cX12_loses 16 = .ok (.iload_n 2, 1) := by decide +kernel
theorem dX12_loses_17 : decode cX12_loses 17 = .ok (.ifCond .eq 5, 3) := by decide +kernel
theorem dX12_loses_20 : decode cX12_loses 20 = .ok (.iload_n 2, 1) := by decide +kernel
theorem dX12_loses_21 : decode cX12_loses 21 = .ok (.ireturn, 1) := by decide +kernel
theorem dX12_loses_22 : decode cX12_loses 22 = .ok (.iconst 0, 1) := by decide +kernel
theorem dX12_loses_23 : decode cX12_loses 23 = .ok (.istore_n 3, 1) := by decide +kernel
theorem dX12_loses_24 : decode cX12_loses 24 = .ok (.iload_n 3, 1) := by decide +kernel
theorem dX12_loses_25 : decode cX12_loses 25 = .ok (.aload_n 0, 1) := by decide +kernel
theorem dX12_loses_26 : decode cX12_loses 26 = .ok (.getfield 9, 3) := by decide +kernel
theorem dX12_loses_29 : decode cX12_loses 29 = .ok (.iconst 1, 1) := by decide +kernel
theorem dX12_loses_30 : decode cX12_loses 30 = .ok (.iaload, 1) := by decide +kernel
theorem dX12_loses_31 : decode cX12_loses 31 = .ok (.if_icmp .ge 101, 3) := by decide +kernel
theorem dX12_loses_34 : decode cX12_loses 34 = .ok (.iconst 0, 1) := by decide +kernel
theorem dX12_loses_35 : decode cX12_loses 35 = .ok (.istore 4, 2) := by decide +kernel
theorem dX12_loses_37 : decode cX12_loses 37 = .ok (.iconst 0, 1) := by decide +kernel
theorem dX12_loses_38 : decode cX12_loses 38 = .ok (.istore 5, 2) := by decide +kernel
theorem dX12_loses_40 : decode cX12_loses 40 = .ok (.iload 5, 2) := by decide +kernel
theorem dX12_loses_42 : decode cX12_loses 42 = .ok (.aload_n 0, 1) := by decide +kernel
theorem dX12_loses_43 : decode cX12_loses 43 = .ok (.getfield 9, 3) := by decide +kernel
theorem dX12_loses_46 : decode cX12_loses 46 = .ok (.iconst 0, 1) := by decide +kernel
theorem dX12_loses_47 : decode cX12_loses 47 = .ok (.iaload, 1) := by decide +kernel
theorem dX12_loses_48 : decode cX12_loses 48 = .ok (.if_icmp .ge 71, 3) := by decide +kernel
theorem dX12_loses_51 : decode cX12_loses 51 = .ok (.iload 4, 2) := by decide +kernel
theorem dX12_loses_53 : decode cX12_loses 53 = .ok (.aload_n 0, 1) := by decide +kernel
theorem dX12_loses_54 : decode cX12_loses 54 = .ok (.iload_n 1, 1) := by decide +kernel
theorem dX12_loses_55 : decode cX12_loses 55 = .ok (.iload 5, 2) := by decide +kernel
theorem dX12_loses_57 : decode cX12_loses 57 = .ok (.invokevirtual 217, 3) := by decide +kernel
theorem dX12_loses_60 : decode cX12_loses 60 = .ok (.iload_n 3, 1) := by decide +kernel
theorem dX12_loses_61 : decode cX12_loses 61 = .ok (.if_icmp .ne 48, 3) := by decide +kernel
theorem dX12_loses_64 : decode cX12_loses 64 = .ok (.aload_n 0, 1) := by decide +kernel
theorem dX12_loses_65 : decode cX12_loses 65 = .ok (.getfield 9, 3) := by decide +kernel
theorem dX12_loses_68 : decode cX12_loses 68 = .ok (.iconst 3, 1) := by decide +kernel
theorem dX12_loses_69 : decode cX12_loses 69 = .ok (.iload 5, 2) := by decide +kernel
theorem dX12_loses_71 : decode cX12_loses 71 = .ok (.iadd, 1) := by decide +kernel
theorem dX12_loses_72 : decode cX12_loses 72 = .ok (.iaload, 1) := by decide +kernel
theorem dX12_loses_73 : decode cX12_loses 73 = .ok (.aload_n 0, 1) := by decide +kernel
theorem dX12_loses_74 : decode cX12_loses 74 = .ok (.getfield 9, 3) := by decide +kernel
theorem dX12_loses_77 : decode cX12_loses 77 = .ok (.bipush 7, 2) := by decide +kernel
theorem dX12_loses_79 : decode cX12_loses 79 = .ok (.iload 5, 2) := by decide +kernel
theorem dX12_loses_81 : decode cX12_loses 81 = .ok (.iadd, 1) := by decide +kernel
theorem dX12_loses_82 : decode cX12_loses 82 = .ok (.iaload, 1) := by decide +kernel
theorem dX12_loses_83 : decode cX12_loses 83 = .ok (.aload_n 0, 1) := by decide +kernel
theorem dX12_loses_84 : decode cX12_loses 84 = .ok (.getfield 9, 3) := by decide +kernel
theorem dX12_loses_87 : decode cX12_loses 87 = .ok (.bipush 15, 2) := by decide +kernel
theorem dX12_loses_89 : decode cX12_loses 89 = .ok (.iload_n 3, 1) := by decide +kernel
theorem dX12_loses_90 : decode cX12_loses 90 = .ok (.iadd, 1) := by decide +kernel
theorem dX12_loses_91 : decode cX12_loses 91 = .ok (.iaload, 1) := by decide +kernel
theorem dX12_loses_92 : decode cX12_loses 92 = .ok (.iadd, 1) := by decide +kernel
theorem dX12_loses_93 : decode cX12_loses 93 = .ok (.aload_n 0, 1) := by decide +kernel
theorem dX12_loses_94 : decode cX12_loses 94 = .ok (.getfield 28, 3) := by decide +kernel
theorem dX12_loses_97 : decode cX12_loses 97 = .ok (.bipush 120, 2) := by decide +kernel
theorem dX12_loses_99 : decode cX12_loses 99 = .ok (.iload_n 1, 1) := by decide +kernel
theorem dX12_loses_100 : decode cX12_loses 100 = .ok (.imul, 1) := by decide +kernel
theorem dX12_loses_101 : decode cX12_loses 101 = .ok (.iload_n 3, 1) := by decide +kernel
theorem dX12_loses_102 : decode cX12_loses 102 = .ok (.iadd, 1) := by decide +kernel
theorem dX12_loses_103 : decode cX12_loses 103 = .ok (.iaload, 1) := by decide +kernel
theorem dX12_loses_104 : decode cX12_loses 104 = .ok (.isub, 1) := by decide +kernel
theorem dX12_loses_105 : decode cX12_loses 105 = .ok (.imul, 1) := by decide +kernel
theorem dX12_loses_106 : decode cX12_loses 106 = .ok (.goto 4, 3) := by decide +kernel
theorem dX12_loses_109 : decode cX12_loses 109 = .ok (.iconst 0, 1) := by decide +kernel
theorem dX12_loses_110 : decode cX12_loses 110 = .ok (.iadd, 1) := by decide +kernel
theorem dX12_loses_111 : decode cX12_loses 111 = .ok (.istore 4, 2) := by decide +kernel
theorem dX12_loses_113 : decode cX12_loses 113 = .ok (.iinc 5 1, 3) := by decide +kernel
theorem dX12_loses_116 : decode cX12_loses 116 = .ok (.goto (-76), 3) := by decide +kernel
theorem dX12_loses_119 : decode cX12_loses 119 = .ok (.iload 4, 2) := by decide +kernel
theorem dX12_loses_121 : decode cX12_loses 121 = .ok (.ifCond .ge 5, 3) := by decide +kernel
theorem dX12_loses_124 : decode cX12_loses 124 = .ok (.iload_n 3, 1) := by decide +kernel
theorem dX12_loses_125 : decode cX12_loses 125 = .ok (.ireturn, 1) := by decide +kernel
theorem dX12_loses_126 : decode cX12_loses 126 = .ok (.iinc 3 1, 3) := by decide +kernel
theorem dX12_loses_129 : decode cX12_loses 129 = .ok (.goto (-105), 3) := by decide +kernel
theorem dX12_loses_132 : decode cX12_loses 132 = .ok (.bipush (-4), 2) := by decide +kernel
theorem dX12_loses_134 : decode cX12_loses 134 = .ok (.ireturn, 1) := by decide +kernel
set_option maxRecDepth 20000 in
theorem ggX12_broken_X12_isOpen : GoodIn wsX12_broken wsX12_isOpen := goodIn_r _ [6, 1, 35, 36, 37, 38, 39, 40, 41, 42, 43, 44, 45, 46, 47, 48, 49, 50, 51, 52, 53, 54, 55, 56, 57, 58] (by decide +kernel) (by decide +kernel)
set_option maxRecDepth 20000 in
theorem gX12_broken_X12_isOpen : GoodIn wsX12_broken (wsV RX12 102 RX12 yX12_isOpen wsX12_isOpen) := goodIn_app (goodIn_of _ (by decide +kernel)) ggX12_broken_X12_isOpen
set_option maxRecDepth 20000 in
theorem ggX12_broken_X12_wrongLine : GoodIn wsX12_broken wsX12_wrongLine := goodIn_r _ [10, 11, 1, 12, 13, 14, 15, 16, 5, 17, 18, 19, 20, 21, 22, 23, 24, 25, 26, 35, 36, 37, 38, 39, 40, 41, 42, 43, 44, 45, 46, 47, 48, 49, 50, 51, 52, 53, 54, 55, 56, 57, 58] (by decide +kernel) (by decide +kernel)
set_option maxRecDepth 20000 in
theorem gX12_broken_X12_wrongLine : GoodIn wsX12_broken (wsV RX12 214 RX12 yX12_wrongLine wsX12_wrongLine) := goodIn_app (goodIn_of _ (by decide +kernel)) ggX12_broken_X12_wrongLine
set_option maxRecDepth 20000 in
theorem ggX12_broken_X12_makesBy : GoodIn wsX12_broken wsX12_makesBy := goodIn_r _ [30, 1, 31, 32, 33, 5, 34, 12, 35, 36, 37, 38, 39, 40, 41, 42, 43, 44, 45, 46, 47, 48, 49, 50, 51, 52, 53, 54, 55, 56, 57, 58] (by decide +kernel) (by decide +kernel)
set_option maxRecDepth 20000 in
theorem gX12_broken_X12_makesBy : GoodIn wsX12_broken (wsV RX12 217 RX12 yX12_makesBy wsX12_makesBy) := goodIn_app (goodIn_of _ (by decide +kernel)) ggX12_broken_X12_makesBy
set_option maxRecDepth 20000 in
theorem ggX12_broken_X12_byLine : GoodIn wsX12_broken wsX12_byLine := goodIn_r _ [34, 1, 12, 35, 36, 37, 38, 39, 40, 41, 42, 43, 44, 45, 46, 47, 48, 49, 50, 51, 52, 53, 54, 55, 56, 57, 58] (by decide +kernel) (by decide +kernel)
set_option maxRecDepth 20000 in
theorem gX12_broken_X12_byLine : GoodIn wsX12_broken (wsV RX12 210 RX12 yX12_byLine wsX12_byLine) := goodIn_app (goodIn_of _ (by decide +kernel)) ggX12_broken_X12_byLine
theorem dX12_broken_0 : decode cX12_broken 0 = .ok (.aload_n 0, 1) := by decide +kernel
theorem dX12_broken_1 : decode cX12_broken 1 = .ok (.invokevirtual 102, 3) := by decide +kernel
theorem dX12_broken_4 : decode cX12_broken 4 = .ok (.ifCond .ne 6, 3) := by decide +kernel
theorem dX12_broken_7 : decode cX12_broken 7 = .ok (.bipush (-3), 2) := by decide +kernel
theorem dX12_broken_9 : decode cX12_broken 9 = .ok (.ireturn, 1) := by decide +kernel
theorem dX12_broken_10 : decode cX12_broken 10 = .ok (.aload_n 0, 1) := by decide +kernel
theorem dX12_broken_11 : decode cX12_broken 11 = .ok (.iload_n 1, 1) := by decide +kernel
theorem dX12_broken_12 : decode cX12_broken 12 = .ok (.invokevirtual 214, 3) := by decide +kernel
theorem dX12_broken_15 : decode cX12_broken 15 = .ok (.istore_n 2, 1) := by decide +kernel
theorem dX12_broken_16 : decode cX12_broken 16 = .ok (.iload_n 2, 1) := by decide +kernel
theorem dX12_broken_17 : decode cX12_broken 17 = .ok (.ifCond .eq 5, 3) := by decide +kernel
theorem dX12_broken_20 : decode cX12_broken 20 = .ok (.iload_n 2, 1) := by decide +kernel
theorem dX12_broken_21 : decode cX12_broken 21 = .ok (.ireturn, 1) := by decide +kernel
theorem dX12_broken_22 : decode cX12_broken 22 = .ok (.iconst 0, 1) := by decide +kernel
theorem dX12_broken_23 : decode cX12_broken 23 = .ok (.istore_n 3, 1) := by decide +kernel
theorem dX12_broken_24 : decode cX12_broken 24 = .ok (.iload_n 3, 1) := by decide +kernel
theorem dX12_broken_25 : decode cX12_broken 25 = .ok (.aload_n 0, 1) := by decide +kernel
theorem dX12_broken_26 : decode cX12_broken 26 = .ok (.getfield 9, 3) := by decide +kernel
theorem dX12_broken_29 : decode cX12_broken 29 = .ok (.iconst 1, 1) := by decide +kernel
theorem dX12_broken_30 : decode cX12_broken 30 = .ok (.iaload, 1) := by decide +kernel
theorem dX12_broken_31 : decode cX12_broken 31 = .ok (.if_icmp .ge 139, 3) := by decide +kernel
theorem dX12_broken_34 : decode cX12_broken 34 = .ok (.iconst 0, 1) := by decide +kernel
theorem dX12_broken_35 : decode cX12_broken 35 = .ok (.istore 4, 2) := by decide +kernel
theorem dX12_broken_37 : decode cX12_broken 37 = .ok (.iload 4, 2) := by decide +kernel
theorem dX12_broken_39 : decode cX12_broken 39 = .ok (.sipush 2000, 3) := by decide +kernel
theorem dX12_broken_42 : decode cX12_broken 42 = .ok (.if_icmp .ge 122, 3) := by decide +kernel
theorem dX12_broken_45 : decode cX12_broken 45 = .ok (.iconst 0, 1) := by decide +kernel
theorem dX12_broken_46 : decode cX12_broken 46 = .ok (.istore 5, 2) := by decide +kernel
theorem dX12_broken_48 : decode cX12_broken 48 = .ok (.iconst 0, 1) := by decide +kernel
theorem dX12_broken_49 : decode cX12_broken 49 = .ok (.istore 6, 2) := by decide +kernel
theorem dX12_broken_51 : decode cX12_broken 51 = .ok (.iload 6, 2) := by decide +kernel
theorem dX12_broken_53 : decode cX12_broken 53 = .ok (.aload_n 0, 1) := by decide +kernel
theorem dX12_broken_54 : decode cX12_broken 54 = .ok (.getfield 9, 3) := by decide +kernel
theorem dX12_broken_57 : decode cX12_broken 57 = .ok (.iconst 0, 1) := by decide +kernel
theorem dX12_broken_58 : decode cX12_broken 58 = .ok (.iaload, 1) := by decide +kernel
theorem dX12_broken_59 : decode cX12_broken 59 = .ok (.if_icmp .ge 85, 3) := by decide +kernel
theorem dX12_broken_62 : decode cX12_broken 62 = .ok (.iload 5, 2) := by decide +kernel
theorem dX12_broken_64 : decode cX12_broken 64 = .ok (.iload 4, 2) := by decide +kernel
theorem dX12_broken_66 : decode cX12_broken 66 = .ok (.aload_n 0, 1) := by decide +kernel
theorem dX12_broken_67 : decode cX12_broken 67 = .ok (.getfield 9, 3) := by decide +kernel
theorem dX12_broken_70 : decode cX12_broken 70 = .ok (.bipush 19, 2) := by decide +kernel
theorem dX12_broken_72 : decode cX12_broken 72 = .ok (.iconst 4, 1) := by decide +kernel
theorem dX12_broken_73 : decode cX12_broken 73 = .ok (.iload_n 3, 1) := by decide +kernel
theorem dX12_broken_74 : decode cX12_broken 74 = .ok (.imul, 1) := by decide +kernel
theorem dX12_broken_75 : decode cX12_broken 75 = .ok (.iadd, 1) := by decide +kernel
theorem dX12_broken_76 : decode cX12_broken 76 = .ok (.iload 6, 2) := by decide +kernel
theorem dX12_broken_78 : decode cX12_broken 78 = .ok (.iadd, 1) := by decide +kernel
theorem dX12_broken_79 : decode cX12_broken 79 = .ok (.iaload, 1) := by decide +kernel
theorem dX12_broken_80 : decode cX12_broken 80 = .ok (.isub, 1) := by decide +kernel
theorem dX12_broken_81 : decode cX12_broken 81 = .ok (.aload_n 0, 1) := by decide +kernel
theorem dX12_broken_82 : decode cX12_broken 82 = .ok (.iload_n 1, 1) := by decide +kernel
theorem dX12_broken_83 : decode cX12_broken 83 = .ok (.iload 6, 2) := by decide +kernel
theorem dX12_broken_85 : decode cX12_broken 85 = .ok (.aload_n 0, 1) := by decide +kernel
theorem dX12_broken_86 : decode cX12_broken 86 = .ok (.iload_n 1, 1) := by decide +kernel
theorem dX12_broken_87 : decode cX12_broken 87 = .ok (.iload 6, 2) := by decide +kernel
theorem dX12_broken_89 : decode cX12_broken 89 = .ok (.invokevirtual 217, 3) := by decide +kernel
theorem dX12_broken_92 : decode cX12_broken 92 = .ok (.invokevirtual 210, 3) := by decide +kernel
theorem dX12_broken_95 : decode cX12_broken 95 = .ok (.if_icmp .le 39, 3) := by decide +kernel
theorem dX12_broken_98 : decode cX12_broken 98 = .ok (.aload_n 0, 1) := by decide +kernel
theorem dX12_broken_99 : decode cX12_broken 99 = .ok (.getfield 9, 3) := by decide +kernel
theorem dX12_broken_102 : decode cX12_broken 102 = .ok (.iconst 3, 1) := by decide +kernel
theorem dX12_broken_103 : decode cX12_broken 103 = .ok (.iload 6, 2) := by decide +kernel
theorem dX12_broken_105 : decode cX12_broken 105 = .ok (.iadd, 1) := by decide +kernel
theorem dX12_broken_106 : decode cX12_broken 106 = .ok (.iaload, 1) := by decide +kernel
theorem dX12_broken_107 : decode cX12_broken 107 = .ok (.aload_n 0, 1) := by decide +kernel
theorem dX12_broken_108 : decode cX12_broken 108 = .ok (.getfield 9, 3) := by decide +kernel
theorem dX12_broken_111 : decode cX12_broken 111 = .ok (.bipush 7, 2) := by decide +kernel
theorem dX12_broken_113 : decode cX12_broken 113 = .ok (.iload 6, 2) := by decide +kernel
theorem dX12_broken_115 : decode cX12_broken 115 = .ok (.iadd, 1) := by decide +kernel
theorem dX12_broken_116 : decode cX12_broken 116 = .ok (.iaload, 1) := by decide +kernel
theorem dX12_broken_117 : decode cX12_broken 117 = .ok (.aload_n 0, 1) := by decide +kernel
theorem dX12_broken_118 : decode cX12_broken 118 = .ok (.getfield 9, 3) := by decide +kernel
theorem dX12_broken_121 : decode cX12_broken 121 = .ok (.bipush 15, 2) := by decide +kernel
theorem dX12_broken_123 : decode cX12_broken 123 = .ok (.iload_n 3, 1) := by decide +kernel
theorem dX12_broken_124 : decode cX12_broken 124 = .ok (.iadd, 1) := by decide +kernel
theorem dX12_broken_125 : decode cX12_broken 125 = .ok (.iaload, 1) := by decide +kernel
theorem dX12_broken_126 : decode cX12_broken 126 = .ok (.iadd, 1) := by decide +kernel
theorem dX12_broken_127 : decode cX12_broken 127 = .ok (.iload 4, 2) := by decide +kernel
theorem dX12_broken_129 : decode cX12_broken 129 = .ok (.isub, 1) := by decide +kernel
theorem dX12_broken_130 : decode cX12_broken 130 = .ok (.imul, 1) := by decide +kernel
theorem dX12_broken_131 : decode cX12_broken 131 = .ok (.goto 4, 3) := by decide +kernel
theorem dX12_broken_134 : decode cX12_broken 134 = .ok (.iconst 0, 1) := by decide +kernel
theorem dX12_broken_135 : decode cX12_broken 135 = .ok (.iadd, 1) := by decide +kernel
theorem dX12_broken_136 : decode cX12_broken 136 = .ok (.istore 5, 2) := by decide +kernel
theorem dX12_broken_138 : decode cX12_broken 138 = .ok (.iinc 6 1, 3) := by decide +kernel
theorem dX12_broken_141 : decode cX12_broken 141 = .ok (.goto (-90), 3) := by decide +kernel
theorem dX12_broken_144 : decode cX12_broken 144 = .ok (.iload 5, 2) := by decide +kernel
theorem dX12_broken_146 : decode cX12_broken 146 = .ok (.ifCond .le 12, 3) := by decide +kernel
theorem dX12_broken_149 : decode cX12_broken 149 = .ok (.sipush 10000, 3) := by decide +kernel
theorem dX12_broken_152 : decode cX12_broken 152 = .ok (.iload_n 3, 1) := by decide +kernel
theorem dX12_broken_153 : decode cX12_broken 153 = .ok (.imul, 1) := by decide +kernel
theorem dX12_broken_154 : decode cX12_broken 154 = .ok (.iload 4, 2) := by decide +kernel
theorem dX12_broken_156 : decode cX12_broken 156 = .ok (.iadd, 1) := by decide +kernel
theorem dX12_broken_157 : decode cX12_broken 157 = .ok (.ireturn, 1) := by decide +kernel
theorem dX12_broken_158 : decode cX12_broken 158 = .ok (.iinc 4 1, 3) := by decide +kernel
theorem dX12_broken_161 : decode cX12_broken 161 = .ok (.goto (-124), 3) := by decide +kernel
theorem dX12_broken_164 : decode cX12_broken 164 = .ok (.iinc 3 1, 3) := by decide +kernel
theorem dX12_broken_167 : decode cX12_broken 167 = .ok (.goto (-143), 3) := by decide +kernel
theorem dX12_broken_170 : decode cX12_broken 170 = .ok (.bipush (-4), 2) := by decide +kernel
theorem dX12_broken_172 : decode cX12_broken 172 = .ok (.ireturn, 1) := by decide +kernel
set_option maxRecDepth 20000 in
theorem ggX12_edge_X12_isOpen : GoodIn wsX12_edge wsX12_isOpen := goodIn_r _ [6, 1, 56, 57, 58, 59, 60, 61, 62, 63, 64, 65, 66, 67, 68, 69, 70, 71, 72, 73, 74, 75, 76, 77, 78, 79] (by decide +kernel) (by decide +kernel)
set_option maxRecDepth 20000 in
theorem gX12_edge_X12_isOpen : GoodIn wsX12_edge (wsV RX12 102 RX12 yX12_isOpen wsX12_isOpen) := goodIn_app (goodIn_of _ (by decide +kernel)) ggX12_edge_X12_isOpen
set_option maxRecDepth 20000 in
theorem ggX12_edge_X12_isFit : GoodIn wsX12_edge wsX12_isFit := goodIn_r _ [10, 1, 11, 12, 13, 14, 5, 15, 16, 17, 18, 19, 20, 21, 56, 57, 58, 59, 60, 61, 62, 63, 64, 65, 66, 67, 68, 69, 70, 71, 72, 73, 74, 75, 76, 77, 78, 79] (by decide +kernel) (by decide +kernel)
set_option maxRecDepth 20000 in
theorem gX12_edge_X12_isFit : GoodIn wsX12_edge (wsV RX12 154 RX12 yX12_isFit wsX12_isFit) := goodIn_app (goodIn_of _ (by decide +kernel)) ggX12_edge_X12_isFit
set_option maxRecDepth 20000 in
theorem ggX12_edge_X12_isMark : GoodIn wsX12_edge wsX12_isMark := goodIn_r _ [25, 1, 16, 17, 5, 18, 56, 57, 58, 59, 60, 61, 62, 63, 64, 65, 66, 67, 68, 69, 70, 71, 72, 73, 74, 75, 76, 77, 78, 79] (by decide +kernel) (by decide +kernel)
set_option maxRecDepth 20000 in
theorem gX12_edge_X12_isMark : GoodIn wsX12_edge (wsV RX12 110 RX12 yX12_isMark wsX12_isMark) := goodIn_app (goodIn_of _ (by decide +kernel)) ggX12_edge_X12_isMark
set_option maxRecDepth 20000 in
theorem ggX12_edge_X12_isSort : GoodIn wsX12_edge wsX12_isSort := goodIn_r _ [29, 1, 16, 17, 5, 18, 56, 57, 58, 59, 60, 61, 62, 63, 64, 65, 66, 67, 68, 69, 70, 71, 72, 73, 74, 75, 76, 77, 78, 79] (by decide +kernel) (by decide +kernel)
set_option maxRecDepth 20000 in
theorem gX12_edge_X12_isSort : GoodIn wsX12_edge (wsV RX12 105 RX12 yX12_isSort wsX12_isSort) := goodIn_app (goodIn_of _ (by decide +kernel)) ggX12_edge_X12_isSort
set_option maxRecDepth 20000 in
theorem ggX12_edge_X12_isSure : GoodIn wsX12_edge wsX12_isSure := goodIn_r _ [33, 7, 8, 9, 5, 10, 1, 11, 12, 13, 14, 15, 16, 17, 18, 19, 20, 21, 34, 35, 36, 37, 38, 39, 40, 41, 42, 43, 44, 45, 46, 47, 48, 49, 50, 51, 52, 53, 54, 55, 22, 23, 24, 25, 56, 57, 58, 59, 60, 61, 62, 63, 64, 65, 66, 67, 68, 69, 70, 71, 72, 73, 74, 75, 76, 77, 78, 79] (by decide +kernel) (by decide +kernel)
set_option maxRecDepth 20000 in
theorem gX12_edge_X12_isSure : GoodIn wsX12_edge (wsV RX12 170 RX12 yX12_isSure wsX12_isSure) := goodIn_app (goodIn_of _ (by decide +kernel)) ggX12_edge_X12_isSure
theorem dX12_edge_0 : decode cX12_edge 0 = .ok (.aload_n 0, 1) := by decide +kernel
theorem dX12_edge_1 : decode cX12_edge 1 = .ok (.invokevirtual 102, 3) := by decide +kernel
theorem dX12_edge_4 : decode cX12_edge 4 = .ok (.ifCond .ne 6, 3) := by decide +kernel
theorem dX12_edge_7 : decode cX12_edge 7 = .ok (.bipush (-3), 2) := by decide +kernel
theorem dX12_edge_9 : decode cX12_edge 9 = .ok (.ireturn, 1) := by decide +kernel
theorem dX12_edge_10 : decode cX12_edge 10 = .ok (.aload_n 0, 1) := by decide +kernel
theorem dX12_edge_11 : decode cX12_edge 11 = .ok (.iload_n 1, 1) := by decide +kernel
theorem dX12_edge_12 : decode cX12_edge 12 = .ok (.invokevirtual 154, 3) := by decide +kernel
theorem dX12_edge_15 : decode cX12_edge 15 = .ok (.ifCond .eq 19, 3) := by decide +kernel
theorem dX12_edge_18 : decode cX12_edge 18 = .ok (.aload_n 0, 1) := by decide +kernel
theorem dX12_edge_19 : decode cX12_edge 19 = .ok (.iload_n 2, 1) := by decide +kernel
theorem dX12_edge_20 : decode cX12_edge 20 = .ok (.invokevirtual 110, 3) := by decide +kernel
theorem dX12_edge_23 : decode cX12_edge 23 = .ok (.ifCond .eq 11, 3) := by decide +kernel
theorem dX12_edge_26 : decode cX12_edge 26 = .ok (.aload_n 0, 1) := by decide +kernel
theorem dX12_edge_27 : decode cX12_edge 27 = .ok (.iload_n 3, 1) := by decide +kernel
theorem dX12_edge_28 : decode cX12_edge 28 = .ok (.invokevirtual 105, 3) := by decide +kernel
theorem dX12_edge_31 : decode cX12_edge 31 = .ok (.ifCond .ne 5, 3) := by decide +kernel
theorem dX12_edge_34 : decode cX12_edge 34 = .ok (.iconst (-1), 1) := by decide +kernel
theorem dX12_edge_35 : decode cX12_edge 35 = .ok (.ireturn, 1) := by decide +kernel
theorem dX12_edge_36 : decode cX12_edge 36 = .ok (.aload_n 0, 1) := by decide +kernel
theorem dX12_edge_37 : decode cX12_edge 37 = .ok (.getfield 9, 3) := by decide +kernel
theorem dX12_edge_40 : decode cX12_edge 40 = .ok (.bipush 19, 2) := by decide +kernel
theorem dX12_edge_42 : decode cX12_edge 42 = .ok (.iconst 4, 1) := by decide +kernel
theorem dX12_edge_43 : decode cX12_edge 43 = .ok (.iload_n 2, 1) := by decide +kernel
theorem dX12_edge_44 : decode cX12_edge 44 = .ok (.imul, 1) := by decide +kernel
theorem dX12_edge_45 : decode cX12_edge 45 = .ok (.iadd, 1) := by decide +kernel
theorem dX12_edge_46 : decode cX12_edge 46 = .ok (.iload_n 3, 1) := by decide +kernel
theorem dX12_edge_47 : decode cX12_edge 47 = .ok (.iadd, 1) := by decide +kernel
theorem dX12_edge_48 : decode cX12_edge 48 = .ok (.iaload, 1) := by decide +kernel
theorem dX12_edge_49 : decode cX12_edge 49 = .ok (.istore 4, 2) := by decide +kernel
theorem dX12_edge_51 : decode cX12_edge 51 = .ok (.bipush (-4), 2) := by decide +kernel
theorem dX12_edge_53 : decode cX12_edge 53 = .ok (.istore 5, 2) := by decide +kernel
theorem dX12_edge_55 : decode cX12_edge 55 = .ok (.iconst 0, 1) := by decide +kernel
theorem dX12_edge_56 : decode cX12_edge 56 = .ok (.istore 6, 2) := by decide +kernel
theorem dX12_edge_58 : decode cX12_edge 58 = .ok (.iload 6, 2) := by decide +kernel
theorem dX12_edge_60 : decode cX12_edge 60 = .ok (.sipush 1000, 3) := by decide +kernel
theorem dX12_edge_63 : decode cX12_edge 63 = .ok (.if_icmp .ge 46, 3) := by decide +kernel
theorem dX12_edge_66 : decode cX12_edge 66 = .ok (.iload 5, 2) := by decide +kernel
theorem dX12_edge_68 : decode cX12_edge 68 = .ok (.ifCond .ge 41, 3) := by decide +kernel
theorem dX12_edge_71 : decode cX12_edge 71 = .ok (.aload_n 0, 1) := by decide +kernel
theorem dX12_edge_72 : decode cX12_edge 72 = .ok (.getfield 9, 3) := by decide +kernel
theorem dX12_edge_75 : decode cX12_edge 75 = .ok (.bipush 19, 2) := by decide +kernel
theorem dX12_edge_77 : decode cX12_edge 77 = .ok (.iconst 4, 1) := by decide +kernel
theorem dX12_edge_78 : decode cX12_edge 78 = .ok (.iload_n 2, 1) := by decide +kernel
theorem dX12_edge_79 : decode cX12_edge 79 = .ok (.imul, 1) := by decide +kernel
theorem dX12_edge_80 : decode cX12_edge 80 = .ok (.iadd, 1) := by decide +kernel
theorem dX12_edge_81 : decode cX12_edge 81 = .ok (.iload_n 3, 1) := by decide +kernel
theorem dX12_edge_82 : decode cX12_edge 82 = .ok (.iadd, 1) := by decide +kernel
theorem dX12_edge_83 : decode cX12_edge 83 = .ok (.iload 6, 2) := by decide +kernel
theorem dX12_edge_85 : decode cX12_edge 85 = .ok (.iastore, 1) := by decide +kernel
theorem dX12_edge_86 : decode cX12_edge 86 = .ok (.aload_n 0, 1) := by decide +kernel
theorem dX12_edge_87 : decode cX12_edge 87 = .ok (.iload_n 1, 1) := by decide +kernel
theorem dX12_edge_88 : decode cX12_edge 88 = .ok (.invokevirtual 170, 3) := by decide +kernel
theorem dX12_edge_91 : decode cX12_edge 91 = .ok (.ifCond .eq 8, 3) := by decide +kernel
theorem dX12_edge_94 : decode cX12_edge 94 = .ok (.iload 6, 2) := by decide +kernel
theorem dX12_edge_96 : decode cX12_edge 96 = .ok (.goto 5, 3) := by decide +kernel
theorem dX12_edge_99 : decode cX12_edge 99 = .ok (.bipush (-4), 2) := by decide +kernel
theorem dX12_edge_101 : decode cX12_edge 101 = .ok (.istore 5, 2) := by decide +kernel
theorem dX12_edge_103 : decode cX12_edge 103 = .ok (.iinc 6 1, 3) := by decide +kernel
theorem dX12_edge_106 : decode cX12_edge 106 = .ok (.goto (-48), 3) := by decide +kernel
theorem dX12_edge_109 : decode cX12_edge 109 = .ok (.aload_n 0, 1) := by decide +kernel
theorem dX12_edge_110 : decode cX12_edge 110 = .ok (.getfield 9, 3) := by decide +kernel
theorem dX12_edge_113 : decode cX12_edge 113 = .ok (.bipush 19, 2) := by decide +kernel
theorem dX12_edge_115 : decode cX12_edge 115 = .ok (.iconst 4, 1) := by decide +kernel
theorem dX12_edge_116 : decode cX12_edge 116 = .ok (.iload_n 2, 1) := by decide +kernel
theorem dX12_edge_117 : decode cX12_edge 117 = .ok (.imul, 1) := by decide +kernel
theorem dX12_edge_118 : decode cX12_edge 118 = .ok (.iadd, 1) := by decide +kernel
theorem dX12_edge_119 : decode cX12_edge 119 = .ok (.iload_n 3, 1) := by decide +kernel
theorem dX12_edge_120 : decode cX12_edge 120 = .ok (.iadd, 1) := by decide +kernel
theorem dX12_edge_121 : decode cX12_edge 121 = .ok (.iload 4, 2) := by decide +kernel
theorem dX12_edge_123 : decode cX12_edge 123 = .ok (.iastore, 1) := by decide +kernel
theorem dX12_edge_124 : decode cX12_edge 124 = .ok (.iload 5, 2) := by decide +kernel
theorem dX12_edge_126 : decode cX12_edge 126 = .ok (.ireturn, 1) := by decide +kernel
set_option maxRecDepth 20000 in
theorem ggX12_run_X12_isOpen : GoodIn wsX12_run wsX12_isOpen := goodIn_r _ [11, 6, 27, 28, 29, 30, 31, 32, 33, 34, 35, 36, 37, 38, 39, 40, 41, 42, 43, 44, 45, 46, 47, 48, 49, 50] (by decide +kernel) (by decide +kernel)
set_option maxRecDepth 20000 in
theorem gX12_run_X12_isOpen : GoodIn wsX12_run (wsV RX12 102 RX12 yX12_isOpen wsX12_isOpen) := goodIn_app (goodIn_of _ (by decide +kernel)) ggX12_run_X12_isOpen
set_option maxRecDepth 20000 in
theorem ggX12_run_X12_isFit : GoodIn wsX12_run wsX12_isFit := goodIn_r _ [15, 6, 16, 17, 18, 19, 10, 20, 21, 22, 23, 24, 25, 26, 27, 28, 29, 30, 31, 32, 33, 34, 35, 36, 37, 38, 39, 40, 41, 42, 43, 44, 45, 46, 47, 48, 49, 50] (by decide +kernel) (by decide +kernel)
set_option maxRecDepth 20000 in
theorem gX12_run_X12_isFit : GoodIn wsX12_run (wsV RX12 154 RX12 yX12_isFit wsX12_isFit) := goodIn_app (goodIn_of _ (by decide +kernel)) ggX12_run_X12_isFit
set_option maxRecDepth 20000 in
theorem ggX12_run_X12_isIn : GoodIn wsX12_run wsX12_isIn := goodIn_r _ [23] (by decide +kernel) (by decide +kernel)
set_option maxRecDepth 20000 in
theorem gX12_run_X12_isIn : GoodIn wsX12_run (va_wsS RX12 50 yX12_isIn wsX12_isIn) := goodIn_app (goodIn_of _ (by decide +kernel)) ggX12_run_X12_isIn
set_option maxRecDepth 20000 in
theorem ggX12_run_X12_made : GoodIn wsX12_run wsX12_made := goodIn_r _ [26] (by decide +kernel) (by decide +kernel)
set_option maxRecDepth 20000 in
theorem gX12_run_X12_made : GoodIn wsX12_run (va_wsS RX12 123 yX12_made wsX12_made) := goodIn_app (goodIn_of _ (by decide +kernel)) ggX12_run_X12_made
theorem dX12_run_0 : decode cX12_run 0 = .ok (.aload_n 0, 1) := by decide +kernel
theorem dX12_run_1 : decode cX12_run 1 = .ok (.invokevirtual 102, 3) := by decide +kernel
theorem dX12_run_4 : decode cX12_run 4 = .ok (.ifCond .ne 6, 3) := by decide +kernel
theorem dX12_run_7 : decode cX12_run 7 = .ok (.bipush (-3), 2) := by decide +kernel
theorem dX12_run_9 : decode cX12_run 9 = .ok (.ireturn, 1) := by decide +kernel
theorem dX12_run_10 : decode cX12_run 10 = .ok (.aload_n 0, 1) := by decide +kernel
theorem dX12_run_11 : decode cX12_run 11 = .ok (.iload_n 1, 1) := by decide +kernel
theorem dX12_run_12 : decode cX12_run 12 = .ok (.invokevirtual 154, 3) := by decide +kernel
theorem dX12_run_15 : decode cX12_run 15 = .ok (.ifCond .eq 28, 3) := by decide +kernel
theorem dX12_run_18 : decode cX12_run 18 = .ok (.iload_n 2, 1) := by decide +kernel
theorem dX12_run_19 : decode cX12_run 19 = .ok (.i2l, 1) := by decide +kernel
theorem dX12_run_20 : decode cX12_run 20 = .ok (.lconst 1, 1) := by decide +kernel
theorem dX12_run_21 : decode cX12_run 21 = .ok (.ldc2_w 118, 3) := by decide +kernel
theorem dX12_run_24 : decode cX12_run 24 = .ok (.invokestatic 50, 3) := by decide +kernel
theorem dX12_run_27 : decode cX12_run 27 = .ok (.ifCond .eq 16, 3) := by decide +kernel
theorem dX12_run_30 : decode cX12_run 30 = .ok (.iload 4, 2) := by decide +kernel
theorem dX12_run_32 : decode cX12_run 32 = .ok (.i2l, 1) := by decide +kernel
theorem dX12_run_33 : decode cX12_run 33 = .ok (.lconst 0, 1) := by decide +kernel
theorem dX12_run_34 : decode cX12_run 34 = .ok (.ldc2_w 220, 3) := by decide +kernel
theorem dX12_run_37 : decode cX12_run 37 = .ok (.invokestatic 50, 3) := by decide +kernel
theorem dX12_run_40 : decode cX12_run 40 = .ok (.ifCond .ne 5, 3) := by decide +kernel
theorem dX12_run_43 : decode cX12_run 43 = .ok (.iconst (-1), 1) := by decide +kernel
theorem dX12_run_44 : decode cX12_run 44 = .ok (.ireturn, 1) := by decide +kernel
theorem dX12_run_45 : decode cX12_run 45 = .ok (.iload_n 3, 1) := by decide +kernel
theorem dX12_run_46 : decode cX12_run 46 = .ok (.istore 5, 2) := by decide +kernel
theorem dX12_run_48 : decode cX12_run 48 = .ok (.iconst 0, 1) := by decide +kernel
theorem dX12_run_49 : decode cX12_run 49 = .ok (.istore 6, 2) := by decide +kernel
theorem dX12_run_51 : decode cX12_run 51 = .ok (.iconst 0, 1) := by decide +kernel
theorem dX12_run_52 : decode cX12_run 52 = .ok (.istore 7, 2) := by decide +kernel
theorem dX12_run_54 : decode cX12_run 54 = .ok (.iload 7, 2) := by decide +kernel
theorem dX12_run_56 : decode cX12_run 56 = .ok (.iload_n 2, 1) := by decide +kernel
theorem dX12_run_57 : decode cX12_run 57 = .ok (.if_icmp .ge 91, 3) := by decide +kernel
theorem dX12_run_60 : decode cX12_run 60 = .ok (.iload 5, 2) := by decide +kernel
theorem dX12_run_62 : decode cX12_run 62 = .ok (.ldc 222, 2) := by decide +kernel
theorem dX12_run_64 : decode cX12_run 64 = .ok (.imul, 1) := by decide +kernel
theorem dX12_run_65 : decode cX12_run 65 = .ok (.sipush 12345, 3) := by decide +kernel
theorem dX12_run_68 : decode cX12_run 68 = .ok (.iadd, 1) := by decide +kernel
theorem dX12_run_69 : decode cX12_run 69 = .ok (.istore 5, 2) := by decide +kernel
theorem dX12_run_71 : decode cX12_run 71 = .ok (.iload 5, 2) := by decide +kernel
theorem dX12_run_73 : decode cX12_run 73 = .ok (.ldc 223, 2) := by decide +kernel
theorem dX12_run_75 : decode cX12_run 75 = .ok (.iand, 1) := by decide +kernel
theorem dX12_run_76 : decode cX12_run 76 = .ok (.ldc 224, 2) := by decide +kernel
theorem dX12_run_78 : decode cX12_run 78 = .ok (.idiv, 1) := by decide +kernel
theorem dX12_run_79 : decode cX12_run 79 = .ok (.bipush 100, 2) := by decide +kernel
theorem dX12_run_81 : decode cX12_run 81 = .ok (.irem, 1) := by decide +kernel
theorem dX12_run_82 : decode cX12_run 82 = .ok (.istore 8, 2) := by decide +kernel
theorem dX12_run_84 : decode cX12_run 84 = .ok (.iconst 0, 1) := by decide +kernel
theorem dX12_run_85 : decode cX12_run 85 = .ok (.istore 9, 2) := by decide +kernel
theorem dX12_run_87 : decode cX12_run 87 = .ok (.iload 8, 2) := by decide +kernel
theorem dX12_run_89 : decode cX12_run 89 = .ok (.aload_n 0, 1) := by decide +kernel
theorem dX12_run_90 : decode cX12_run 90 = .ok (.getfield 9, 3) := by decide +kernel
theorem dX12_run_93 : decode cX12_run 93 = .ok (.iconst 3, 1) := by decide +kernel
theorem dX12_run_94 : decode cX12_run 94 = .ok (.iload 9, 2) := by decide +kernel
theorem dX12_run_96 : decode cX12_run 96 = .ok (.iadd, 1) := by decide +kernel
theorem dX12_run_97 : decode cX12_run 97 = .ok (.iaload, 1) := by decide +kernel
theorem dX12_run_98 : decode cX12_run 98 = .ok (.if_icmp .lt 23, 3) := by decide +kernel
theorem dX12_run_101 : decode cX12_run 101 = .ok (.iload 8, 2) := by decide +kernel
theorem dX12_run_103 : decode cX12_run 103 = .ok (.aload_n 0, 1) := by decide +kernel
theorem dX12_run_104 : decode cX12_run 104 = .ok (.getfield 9, 3) := by decide +kernel
theorem dX12_run_107 : decode cX12_run 107 = .ok (.iconst 3, 1) := by decide +kernel
theorem dX12_run_108 : decode cX12_run 108 = .ok (.iload 9, 2) := by decide +kernel
theorem dX12_run_110 : decode cX12_run 110 = .ok (.iadd, 1) := by decide +kernel
theorem dX12_run_111 : decode cX12_run 111 = .ok (.iaload, 1) := by decide +kernel
theorem dX12_run_112 : decode cX12_run 112 = .ok (.isub, 1) := by decide +kernel
theorem dX12_run_113 : decode cX12_run 113 = .ok (.istore 8, 2) := by decide +kernel
theorem dX12_run_115 : decode cX12_run 115 = .ok (.iinc 9 1, 3) := by decide +kernel
theorem dX12_run_118 : decode cX12_run 118 = .ok (.goto (-31), 3) := by decide +kernel
theorem dX12_run_121 : decode cX12_run 121 = .ok (.iload 6, 2) := by decide +kernel
theorem dX12_run_123 : decode cX12_run 123 = .ok (.iload_n 1, 1) := by decide +kernel
theorem dX12_run_124 : decode cX12_run 124 = .ok (.iload 9, 2) := by decide +kernel
theorem dX12_run_126 : decode cX12_run 126 = .ok (.invokestatic 123, 3) := by decide +kernel
theorem dX12_run_129 : decode cX12_run 129 = .ok (.iload 4, 2) := by decide +kernel
theorem dX12_run_131 : decode cX12_run 131 = .ok (.if_icmp .ne 7, 3) := by decide +kernel
theorem dX12_run_134 : decode cX12_run 134 = .ok (.iconst 1, 1) := by decide +kernel
theorem dX12_run_135 : decode cX12_run 135 = .ok (.goto 4, 3) := by decide +kernel
theorem dX12_run_138 : decode cX12_run 138 = .ok (.iconst 0, 1) := by decide +kernel
theorem dX12_run_139 : decode cX12_run 139 = .ok (.iadd, 1) := by decide +kernel
theorem dX12_run_140 : decode cX12_run 140 = .ok (.istore 6, 2) := by decide +kernel
theorem dX12_run_142 : decode cX12_run 142 = .ok (.iinc 7 1, 3) := by decide +kernel
theorem dX12_run_145 : decode cX12_run 145 = .ok (.goto (-91), 3) := by decide +kernel
theorem dX12_run_148 : decode cX12_run 148 = .ok (.iload 6, 2) := by decide +kernel
theorem dX12_run_150 : decode cX12_run 150 = .ok (.ireturn, 1) := by decide +kernel
set_option maxRecDepth 20000 in
theorem ggX12_rate_X12_isOpen : GoodIn wsX12_rate wsX12_isOpen := goodIn_r _ [6, 7, 15, 16, 17, 18, 19, 20, 21, 22, 23, 24, 25, 26, 27, 28, 29, 30, 31, 32, 33, 34, 35, 36, 37, 38] (by decide +kernel) (by decide +kernel)
set_option maxRecDepth 20000 in
theorem gX12_rate_X12_isOpen : GoodIn wsX12_rate (wsV RX12 102 RX12 yX12_isOpen wsX12_isOpen) := goodIn_app (goodIn_of _ (by decide +kernel)) ggX12_rate_X12_isOpen
set_option maxRecDepth 20000 in
theorem ggX12_rate_X12_isIn : GoodIn wsX12_rate wsX12_isIn := goodIn_r _ [10] (by decide +kernel) (by decide +kernel)
set_option maxRecDepth 20000 in
theorem gX12_rate_X12_isIn : GoodIn wsX12_rate (va_wsS RX12 50 yX12_isIn wsX12_isIn) := goodIn_app (goodIn_of _ (by decide +kernel)) ggX12_rate_X12_isIn
set_option maxRecDepth 20000 in
theorem ggX12_rate_X12_becomes : GoodIn wsX12_rate wsX12_becomes := goodIn_r _ [14, 7, 15, 16, 17, 18, 19, 20, 21, 22, 23, 24, 25, 26, 27, 28, 29, 30, 31, 32, 33, 34, 35, 36, 37, 38] (by decide +kernel) (by decide +kernel)
set_option maxRecDepth 20000 in
theorem gX12_rate_X12_becomes : GoodIn wsX12_rate (wsV RX12 115 RX12 yX12_becomes wsX12_becomes) := goodIn_app (goodIn_of _ (by decide +kernel)) ggX12_rate_X12_becomes
theorem dX12_rate_0 : decode cX12_rate 0 = .ok (.aload_n 0, 1) := by decide +kernel
theorem dX12_rate_1 : decode cX12_rate 1 = .ok (.invokevirtual 102, 3) := by decide +kernel
theorem dX12_rate_4 : decode cX12_rate 4 = .ok (.ifCond .ne 8, 3) := by decide +kernel
theorem dX12_rate_7 : decode cX12_rate 7 = .ok (.bipush (-3), 2) := by decide +kernel
theorem dX12_rate_9 : decode cX12_rate 9 = .ok (.goto 25, 3) := by decide +kernel
theorem dX12_rate_12 : decode cX12_rate 12 = .ok (.iload_n 1, 1) := by decide +kernel
theorem dX12_rate_13 : decode cX12_rate 13 = .ok (.i2l, 1) := by decide +kernel
theorem dX12_rate_14 : decode cX12_rate 14 = .ok (.lconst 0, 1) := by decide +kernel
theorem dX12_rate_15 : decode cX12_rate 15 = .ok (.ldc2_w 87, 3) := by decide +kernel
theorem dX12_rate_18 : decode cX12_rate 18 = .ok (.invokestatic 50, 3) := by decide +kernel
theorem dX12_rate_21 : decode cX12_rate 21 = .ok (.ifCond .eq 12, 3) := by decide +kernel
theorem dX12_rate_24 : decode cX12_rate 24 = .ok (.aload_n 0, 1) := by decide +kernel
theorem dX12_rate_25 : decode cX12_rate 25 = .ok (.iconst 2, 1) := by decide +kernel
theorem dX12_rate_26 : decode cX12_rate 26 = .ok (.iload_n 1, 1) := by decide +kernel
theorem dX12_rate_27 : decode cX12_rate 27 = .ok (.invokevirtual 115, 3) := by decide +kernel
theorem dX12_rate_30 : decode cX12_rate 30 = .ok (.goto 4, 3) := by decide +kernel
theorem dX12_rate_33 : decode cX12_rate 33 = .ok (.iconst (-1), 1) := by decide +kernel
theorem dX12_rate_34 : decode cX12_rate 34 = .ok (.ireturn, 1) := by decide +kernel
theorem dX12_over_0 : decode cX12_over 0 = .ok (.aload_n 0, 1) := by decide +kernel
theorem dX12_over_1 : decode cX12_over 1 = .ok (.iload_n 1, 1) := by decide +kernel
theorem dX12_over_2 : decode cX12_over 2 = .ok (.putfield 40, 3) := by decide +kernel
theorem dX12_over_5 : decode cX12_over 5 = .ok (.aload_n 0, 1) := by decide +kernel
theorem dX12_over_6 : decode cX12_over 6 = .ok (.iload_n 1, 1) := by decide +kernel
theorem dX12_over_7 : decode cX12_over 7 = .ok (.iconst 1, 1) := by decide +kernel
theorem dX12_over_8 : decode cX12_over 8 = .ok (.if_icmp .le 7, 3) := by decide +kernel
theorem dX12_over_11 : decode cX12_over 11 = .ok (.iconst 1, 1) := by decide +kernel
theorem dX12_over_12 : decode cX12_over 12 = .ok (.goto 4, 3) := by decide +kernel
theorem dX12_over_15 : decode cX12_over 15 = .ok (.iconst 0, 1) := by decide +kernel
theorem dX12_over_16 : decode cX12_over 16 = .ok (.putfield 147, 3) := by decide +kernel
theorem dX12_over_19 : decode cX12_over 19 = .ok (.return_, 1) := by decide +kernel
set_option maxRecDepth 20000 in
theorem ggX12_years_X12_isOpen : GoodIn wsX12_years wsX12_isOpen := goodIn_r _ [9, 10, 56, 57, 58, 59, 60, 61, 62, 63, 64, 65, 66, 67, 68, 69, 70, 71, 72, 73, 74, 75, 76, 77, 78, 79] (by decide +kernel) (by decide +kernel)
set_option maxRecDepth 20000 in
theorem gX12_years_X12_isOpen : GoodIn wsX12_years (wsV RX12 102 RX12 yX12_isOpen wsX12_isOpen) := goodIn_app (goodIn_of _ (by decide +kernel)) ggX12_years_X12_isOpen
set_option maxRecDepth 20000 in
theorem ggX12_years_X12_isFit : GoodIn wsX12_years wsX12_isFit := goodIn_r _ [14, 10, 15, 16, 17, 18, 8, 19, 20, 21, 22, 23, 24, 25, 56, 57, 58, 59, 60, 61, 62, 63, 64, 65, 66, 67, 68, 69, 70, 71, 72, 73, 74, 75, 76, 77, 78, 79] (by decide +kernel) (by decide +kernel)
set_option maxRecDepth 20000 in
theorem gX12_years_X12_isFit : GoodIn wsX12_years (wsV RX12 154 RX12 yX12_isFit wsX12_isFit) := goodIn_app (goodIn_of _ (by decide +kernel)) ggX12_years_X12_isFit
set_option maxRecDepth 20000 in
theorem ggX12_years_X12_isSort : GoodIn wsX12_years wsX12_isSort := goodIn_r _ [29, 10, 20, 21, 8, 22, 56, 57, 58, 59, 60, 61, 62, 63, 64, 65, 66, 67, 68, 69, 70, 71, 72, 73, 74, 75, 76, 77, 78, 79] (by decide +kernel) (by decide +kernel)
set_option maxRecDepth 20000 in
theorem gX12_years_X12_isSort : GoodIn wsX12_years (wsV RX12 105 RX12 yX12_isSort wsX12_isSort) := goodIn_app (goodIn_of _ (by decide +kernel)) ggX12_years_X12_isSort
set_option maxRecDepth 20000 in
theorem ggX12_years_X12_isIn : GoodIn wsX12_years wsX12_isIn := goodIn_r _ [22] (by decide +kernel) (by decide +kernel)
set_option maxRecDepth 20000 in
theorem gX12_years_X12_isIn : GoodIn wsX12_years (va_wsS RX12 50 yX12_isIn wsX12_isIn) := goodIn_app (goodIn_of _ (by decide +kernel)) ggX12_years_X12_isIn
set_option maxRecDepth 20000 in
theorem ggX12_years_X12_over : GoodIn wsX12_years wsX12_over := goodIn_r _ [33, 34, 35, 56, 57, 58, 59, 60, 61, 62, 63, 64, 65, 66, 67, 68, 69, 70, 71, 72, 73, 74, 75, 76, 77, 78, 79] (by decide +kernel) (by decide +kernel)
set_option maxRecDepth 20000 in
theorem gX12_years_X12_over : GoodIn wsX12_years (wsV RX12 227 RX12 yX12_over wsX12_over) := goodIn_app (goodIn_of _ (by decide +kernel)) ggX12_years_X12_over
set_option maxRecDepth 20000 in
theorem ggX12_years_X12_made : GoodIn wsX12_years wsX12_made := goodIn_r _ [25] (by decide +kernel) (by decide +kernel)
set_option maxRecDepth 20000 in
theorem gX12_years_X12_made : GoodIn wsX12_years (va_wsS RX12 123 yX12_made wsX12_made) := goodIn_app (goodIn_of _ (by decide +kernel)) ggX12_years_X12_made
set_option maxRecDepth 20000 in
theorem ggX12_years_X12_findGets : GoodIn wsX12_years wsX12_findGets := goodIn_r _ [39, 34, 10, 3, 4, 35, 40, 41, 42, 43, 8, 44, 45, 23, 24, 25, 46, 47, 48, 49, 56, 57, 58, 59, 60, 61, 62, 63, 64, 65, 66, 67, 68, 69, 70, 71, 72, 73, 74, 75, 76, 77, 78, 79] (by decide +kernel) (by decide +kernel)
set_option maxRecDepth 20000 in
theorem gX12_years_X12_findGets : GoodIn wsX12_years (wsV RX12 162 RX12 yX12_findGets wsX12_findGets) := goodIn_app (goodIn_of _ (by decide +kernel)) ggX12_years_X12_findGets
set_option maxRecDepth 20000 in
theorem ggX12_years_X12_told : GoodIn wsX12_years wsX12_told := goodIn_r _ [52, 53, 54, 8, 55] (by decide +kernel) (by decide +kernel)
set_option maxRecDepth 20000 in
theorem gX12_years_X12_told : GoodIn wsX12_years (va_wsS RX12 159 yX12_told wsX12_told) := goodIn_app (goodIn_of _ (by decide +kernel)) ggX12_years_X12_told
theorem dX12_years_0 : decode cX12_years 0 = .ok (.aload_n 0, 1) := by decide +kernel
theorem dX12_years_1 : decode cX12_years 1 = .ok (.invokevirtual 102, 3) := by decide +kernel
theorem dX12_years_4 : decode cX12_years 4 = .ok (.ifCond .eq 42, 3) := by decide +kernel
theorem dX12_years_7 : decode cX12_years 7 = .ok (.aload_n 0, 1) := by decide +kernel
theorem dX12_years_8 : decode cX12_years 8 = .ok (.iload_n 1, 1) := by decide +kernel
theorem dX12_years_9 : decode cX12_years 9 = .ok (.invokevirtual 154, 3) := by decide +kernel
theorem dX12_years_12 : decode cX12_years 12 = .ok (.ifCond .eq 34, 3) := by decide +kernel
theorem dX12_years_15 : decode cX12_years 15 = .ok (.aload_n 0, 1) := by decide +kernel
theorem dX12_years_16 : decode cX12_years 16 = .ok (.iload_n 2, 1) := by decide +kernel
theorem dX12_years_17 : decode cX12_years 17 = .ok (.invokevirtual 105, 3) := by decide +kernel
theorem dX12_years_20 : decode cX12_years 20 = .ok (.ifCond .eq 26, 3) := by decide +kernel
theorem dX12_years_23 : decode cX12_years 23 = .ok (.iload_n 3, 1) := by decide +kernel
theorem dX12_years_24 : decode cX12_years 24 = .ok (.i2l, 1) := by decide +kernel
theorem dX12_years_25 : decode cX12_years 25 = .ok (.lconst 1, 1) := by decide +kernel
theorem dX12_years_26 : decode cX12_years 26 = .ok (.ldc2_w 225, 3) := by decide +kernel
theorem dX12_years_29 : decode cX12_years 29 = .ok (.invokestatic 50, 3) := by decide +kernel
theorem dX12_years_32 : decode cX12_years 32 = .ok (.ifCond .eq 14, 3) := by decide +kernel
theorem dX12_years_35 : decode cX12_years 35 = .ok (.iload 4, 2) := by decide +kernel
theorem dX12_years_37 : decode cX12_years 37 = .ok (.i2l, 1) := by decide +kernel
theorem dX12_years_38 : decode cX12_years 38 = .ok (.lconst 0, 1) := by decide +kernel
theorem dX12_years_39 : decode cX12_years 39 = .ok (.lconst 1, 1) := by decide +kernel
theorem dX12_years_40 : decode cX12_years 40 = .ok (.invokestatic 50, 3) := by decide +kernel
theorem dX12_years_43 : decode cX12_years 43 = .ok (.ifCond .ne 7, 3) := by decide +kernel
theorem dX12_years_46 : decode cX12_years 46 = .ok (.ldc2_w 157, 3) := by decide +kernel
theorem dX12_years_49 : decode cX12_years 49 = .ok (.lreturn, 1) := by decide +kernel
theorem dX12_years_50 : decode cX12_years 50 = .ok (.aload_n 0, 1) := by decide +kernel
theorem dX12_years_51 : decode cX12_years 51 = .ok (.iload_n 3, 1) := by decide +kernel
theorem dX12_years_52 : decode cX12_years 52 = .ok (.invokevirtual 227, 3) := by decide +kernel
theorem dX12_years_55 : decode cX12_years 55 = .ok (.aload_n 0, 1) := by decide +kernel
theorem dX12_years_56 : decode cX12_years 56 = .ok (.iload_n 1, 1) := by decide +kernel
theorem dX12_years_57 : decode cX12_years 57 = .ok (.iload_n 2, 1) := by decide +kernel
theorem dX12_years_58 : decode cX12_years 58 = .ok (.iload_n 1, 1) := by decide +kernel
theorem dX12_years_59 : decode cX12_years 59 = .ok (.iload_n 2, 1) := by decide +kernel
theorem dX12_years_60 : decode cX12_years 60 = .ok (.invokestatic 123, 3) := by decide +kernel
theorem dX12_years_63 : decode cX12_years 63 = .ok (.invokevirtual 162, 3) := by decide +kernel
theorem dX12_years_66 : decode cX12_years 66 = .ok (.aload_n 0, 1) := by decide +kernel
theorem dX12_years_67 : decode cX12_years 67 = .ok (.iconst 1, 1) := by decide +kernel
theorem dX12_years_68 : decode cX12_years 68 = .ok (.invokevirtual 227, 3) := by decide +kernel
theorem dX12_years_71 : decode cX12_years 71 = .ok (.aload_n 0, 1) := by decide +kernel
theorem dX12_years_72 : decode cX12_years 72 = .ok (.getfield 129, 3) := by decide +kernel
theorem dX12_years_75 : decode cX12_years 75 = .ok (.aload_n 0, 1) := by decide +kernel
theorem dX12_years_76 : decode cX12_years 76 = .ok (.getfield 133, 3) := by decide +kernel
theorem dX12_years_79 : decode cX12_years 79 = .ok (.iload 4, 2) := by decide +kernel
theorem dX12_years_81 : decode cX12_years 81 = .ok (.invokestatic 159, 3) := by decide +kernel
theorem dX12_years_84 : decode cX12_years 84 = .ok (.lreturn, 1) := by decide +kernel
set_option maxRecDepth 20000 in
theorem ggX12_ratherOver_X12_isOpen : GoodIn wsX12_ratherOver wsX12_isOpen := goodIn_r _ [6, 7, 53, 54, 55, 56, 57, 58, 59, 60, 61, 62, 63, 64, 65, 66, 67, 68, 69, 70, 71, 72, 73, 74, 75, 76] (by decide +kernel) (by decide +kernel)
set_option maxRecDepth 20000 in
theorem gX12_ratherOver_X12_isOpen : GoodIn wsX12_ratherOver (wsV RX12 102 RX12 yX12_isOpen wsX12_isOpen) := goodIn_app (goodIn_of _ (by decide +kernel)) ggX12_ratherOver_X12_isOpen
set_option maxRecDepth 20000 in
theorem ggX12_ratherOver_X12_isFit : GoodIn wsX12_ratherOver wsX12_isFit := goodIn_r _ [11, 7, 12, 13, 14, 15, 5, 16, 17, 18, 19, 20, 21, 22, 53, 54, 55, 56, 57, 58, 59, 60, 61, 62, 63, 64, 65, 66, 67, 68, 69, 70, 71, 72, 73, 74, 75, 76] (by decide +kernel) (by decide +kernel)
set_option maxRecDepth 20000 in
theorem gX12_ratherOver_X12_isFit : GoodIn wsX12_ratherOver (wsV RX12 154 RX12 yX12_isFit wsX12_isFit) := goodIn_app (goodIn_of _ (by decide +kernel)) ggX12_ratherOver_X12_isFit
set_option maxRecDepth 20000 in
theorem ggX12_ratherOver_X12_isIn : GoodIn wsX12_ratherOver wsX12_isIn := goodIn_r _ [19] (by decide +kernel) (by decide +kernel)
set_option maxRecDepth 20000 in
theorem gX12_ratherOver_X12_isIn : GoodIn wsX12_ratherOver (va_wsS RX12 50 yX12_isIn wsX12_isIn) := goodIn_app (goodIn_of _ (by decide +kernel)) ggX12_ratherOver_X12_isIn
set_option maxRecDepth 20000 in
theorem ggX12_ratherOver_X12_over : GoodIn wsX12_ratherOver wsX12_over := goodIn_r _ [26, 27, 28, 53, 54, 55, 56, 57, 58, 59, 60, 61, 62, 63, 64, 65, 66, 67, 68, 69, 70, 71, 72, 73, 74, 75, 76] (by decide +kernel) (by decide +kernel)
set_option maxRecDepth 20000 in
theorem gX12_ratherOver_X12_over : GoodIn wsX12_ratherOver (wsV RX12 227 RX12 yX12_over wsX12_over) := goodIn_app (goodIn_of _ (by decide +kernel)) ggX12_ratherOver_X12_over
set_option maxRecDepth 20000 in
theorem ggX12_ratherOver_X12_ratherOf : GoodIn wsX12_ratherOver wsX12_ratherOf := goodIn_r _ [32, 7, 33, 34, 12, 20, 21, 5, 22, 35, 36, 37, 38, 27, 28, 39, 40, 41, 42, 43, 44, 45, 46, 47, 48, 49, 50, 51, 52, 17, 18, 19, 53, 54, 55, 56, 57, 58, 59, 60, 61, 62, 63, 64, 65, 66, 67, 68, 69, 70, 71, 72, 73, 74, 75, 76] (by decide +kernel) (by decide +kernel)
set_option maxRecDepth 20000 in
theorem gX12_ratherOver_X12_ratherOf : GoodIn wsX12_ratherOver (wsV RX12 166 RX12 yX12_ratherOf wsX12_ratherOf) := goodIn_app (goodIn_of _ (by decide +kernel)) ggX12_ratherOver_X12_ratherOf
theorem dX12_ratherOver_0 : decode cX12_ratherOver 0 = .ok (.aload_n 0, 1) := by decide +kernel
theorem dX12_ratherOver_1 : decode cX12_ratherOver 1 = .ok (.invokevirtual 102, 3) := by decide +kernel
theorem dX12_ratherOver_4 : decode cX12_ratherOver 4 = .ok (.ifCond .ne 6, 3) := by decide +kernel
theorem dX12_ratherOver_7 : decode cX12_ratherOver 7 = .ok (.bipush (-3), 2) := by decide +kernel
theorem dX12_ratherOver_9 : decode cX12_ratherOver 9 = .ok (.ireturn, 1) := by decide +kernel
theorem dX12_ratherOver_10 : decode cX12_ratherOver 10 = .ok (.aload_n 0, 1) := by decide +kernel
theorem dX12_ratherOver_11 : decode cX12_ratherOver 11 = .ok (.iload_n 1, 1) := by decide +kernel
theorem dX12_ratherOver_12 : decode cX12_ratherOver 12 = .ok (.invokevirtual 154, 3) := by decide +kernel
theorem dX12_ratherOver_15 : decode cX12_ratherOver 15 = .ok (.ifCond .eq 15, 3) := by decide +kernel
theorem dX12_ratherOver_18 : decode cX12_ratherOver 18 = .ok (.iload_n 2, 1) := by decide +kernel
theorem dX12_ratherOver_19 : decode cX12_ratherOver 19 = .ok (.i2l, 1) := by decide +kernel
theorem dX12_ratherOver_20 : decode cX12_ratherOver 20 = .ok (.lconst 1, 1) := by decide +kernel
theorem dX12_ratherOver_21 : decode cX12_ratherOver 21 = .ok (.ldc2_w 225, 3) := by decide +kernel
theorem dX12_ratherOver_24 : decode cX12_ratherOver 24 = .ok (.invokestatic 50, 3) := by decide +kernel
theorem dX12_ratherOver_27 : decode cX12_ratherOver 27 = .ok (.ifCond .ne 5, 3) := by decide +kernel
theorem dX12_ratherOver_30 : decode cX12_ratherOver 30 = .ok (.iconst (-1), 1) := by decide +kernel
theorem dX12_ratherOver_31 : decode cX12_ratherOver 31 = .ok (.ireturn, 1) := by decide +kernel
theorem dX12_ratherOver_32 : decode cX12_ratherOver 32 = .ok (.aload_n 0, 1) := by decide +kernel
theorem dX12_ratherOver_33 : decode cX12_ratherOver 33 = .ok (.iload_n 2, 1) := by decide +kernel
theorem dX12_ratherOver_34 : decode cX12_ratherOver 34 = .ok (.invokevirtual 227, 3) := by decide +kernel
theorem dX12_ratherOver_37 : decode cX12_ratherOver 37 = .ok (.aload_n 0, 1) := by decide +kernel
theorem dX12_ratherOver_38 : decode cX12_ratherOver 38 = .ok (.iload_n 1, 1) := by decide +kernel
theorem dX12_ratherOver_39 : decode cX12_ratherOver 39 = .ok (.invokevirtual 166, 3) := by decide +kernel
theorem dX12_ratherOver_42 : decode cX12_ratherOver 42 = .ok (.istore_n 3, 1) := by decide +kernel
theorem dX12_ratherOver_43 : decode cX12_ratherOver 43 = .ok (.aload_n 0, 1) := by decide +kernel
theorem dX12_ratherOver_44 : decode cX12_ratherOver 44 = .ok (.iconst 1, 1) := by decide +kernel
theorem dX12_ratherOver_45 : decode cX12_ratherOver 45 = .ok (.invokevirtual 227, 3) := by decide +kernel
theorem dX12_ratherOver_48 : decode cX12_ratherOver 48 = .ok (.iload_n 3, 1) := by decide +kernel
theorem dX12_ratherOver_49 : decode cX12_ratherOver 49 = .ok (.ireturn, 1) := by decide +kernel
set_option maxRecDepth 20000 in
theorem ggX12_bestTax_X12_isOpen : GoodIn wsX12_bestTax wsX12_isOpen := goodIn_r _ [7, 1, 57, 58, 59, 60, 61, 62, 63, 64, 65, 66, 67, 68, 69, 70, 71, 72, 73, 74, 75, 76, 77, 78, 79, 80] (by decide +kernel) (by decide +kernel)
set_option maxRecDepth 20000 in
theorem gX12_bestTax_X12_isOpen : GoodIn wsX12_bestTax (wsV RX12 102 RX12 yX12_isOpen wsX12_isOpen) := goodIn_app (goodIn_of _ (by decide +kernel)) ggX12_bestTax_X12_isOpen
set_option maxRecDepth 20000 in
theorem ggX12_bestTax_X12_isMark : GoodIn wsX12_bestTax wsX12_isMark := goodIn_r _ [11, 1, 12, 13, 6, 14, 57, 58, 59, 60, 61, 62, 63, 64, 65, 66, 67, 68, 69, 70, 71, 72, 73, 74, 75, 76, 77, 78, 79, 80] (by decide +kernel) (by decide +kernel)
set_option maxRecDepth 20000 in
theorem gX12_bestTax_X12_isMark : GoodIn wsX12_bestTax (wsV RX12 110 RX12 yX12_isMark wsX12_isMark) := goodIn_app (goodIn_of _ (by decide +kernel)) ggX12_bestTax_X12_isMark
set_option maxRecDepth 20000 in
theorem ggX12_bestTax_X12_isIn : GoodIn wsX12_bestTax wsX12_isIn := goodIn_r _ [14] (by decide +kernel) (by decide +kernel)
set_option maxRecDepth 20000 in
theorem gX12_bestTax_X12_isIn : GoodIn wsX12_bestTax (va_wsS RX12 50 yX12_isIn wsX12_isIn) := goodIn_app (goodIn_of _ (by decide +kernel)) ggX12_bestTax_X12_isIn
set_option maxRecDepth 20000 in
theorem ggX12_bestTax_X12_fits : GoodIn wsX12_bestTax wsX12_fits := goodIn_r _ [18, 1, 57, 58, 59, 60, 61, 62, 63, 64, 65, 66, 67, 68, 69, 70, 71, 72, 73, 74, 75, 76, 77, 78, 79, 80] (by decide +kernel) (by decide +kernel)
set_option maxRecDepth 20000 in
theorem gX12_bestTax_X12_fits : GoodIn wsX12_bestTax (wsV RX12 120 RX12 yX12_fits wsX12_fits) := goodIn_app (goodIn_of _ (by decide +kernel)) ggX12_bestTax_X12_fits
set_option maxRecDepth 20000 in
theorem ggX12_bestTax_X12_isSure : GoodIn wsX12_bestTax wsX12_isSure := goodIn_r _ [22, 23, 24, 25, 6, 26, 1, 27, 15, 16, 17, 18, 12, 13, 14, 28, 29, 30, 31, 32, 33, 34, 35, 36, 37, 38, 39, 40, 41, 42, 43, 44, 45, 46, 47, 48, 49, 50, 51, 52, 8, 9, 10, 11, 57, 58, 59, 60, 61, 62, 63, 64, 65, 66, 67, 68, 69, 70, 71, 72, 73, 74, 75, 76, 77, 78, 79, 80] (by decide +kernel) (by decide +kernel)
set_option maxRecDepth 20000 in
theorem gX12_bestTax_X12_isSure : GoodIn wsX12_bestTax (wsV RX12 170 RX12 yX12_isSure wsX12_isSure) := goodIn_app (goodIn_of _ (by decide +kernel)) ggX12_bestTax_X12_isSure
set_option maxRecDepth 20000 in
theorem ggX12_bestTax_X12_wasteOf : GoodIn wsX12_bestTax wsX12_wasteOf := goodIn_r _ [56, 1, 28, 29, 6, 30, 57, 58, 59, 60, 61, 62, 63, 64, 65, 66, 67, 68, 69, 70, 71, 72, 73, 74, 75, 76, 77, 78, 79, 80] (by decide +kernel) (by decide +kernel)
set_option maxRecDepth 20000 in
theorem gX12_bestTax_X12_wasteOf : GoodIn wsX12_bestTax (wsV RX12 190 RX12 yX12_wasteOf wsX12_wasteOf) := goodIn_app (goodIn_of _ (by decide +kernel)) ggX12_bestTax_X12_wasteOf
theorem dX12_bestTax_0 : decode cX12_bestTax 0 = .ok (.aload_n 0, 1) := by decide +kernel
theorem dX12_bestTax_1 : decode cX12_bestTax 1 = .ok (.invokevirtual 102, 3) := by decide +kernel
theorem dX12_bestTax_4 : decode cX12_bestTax 4 = .ok (.ifCond .ne 6, 3) := by decide +kernel
theorem dX12_bestTax_7 : decode cX12_bestTax 7 = .ok (.bipush (-3), 2) := by decide +kernel
theorem dX12_bestTax_9 : decode cX12_bestTax 9 = .ok (.ireturn, 1) := by decide +kernel
theorem dX12_bestTax_10 : decode cX12_bestTax 10 = .ok (.aload_n 0, 1) := by decide +kernel
theorem dX12_bestTax_11 : decode cX12_bestTax 11 = .ok (.iload_n 1, 1) := by decide +kernel
theorem dX12_bestTax_12 : decode cX12_bestTax 12 = .ok (.invokevirtual 110, 3) := by decide +kernel
theorem dX12_bestTax_15 : decode cX12_bestTax 15 = .ok (.ifCond .eq 13, 3) := by decide +kernel
theorem dX12_bestTax_18 : decode cX12_bestTax 18 = .ok (.iload_n 2, 1) := by decide +kernel
theorem dX12_bestTax_19 : decode cX12_bestTax 19 = .ok (.i2l, 1) := by decide +kernel
theorem dX12_bestTax_20 : decode cX12_bestTax 20 = .ok (.lconst 0, 1) := by decide +kernel
theorem dX12_bestTax_21 : decode cX12_bestTax 21 = .ok (.lconst 1, 1) := by decide +kernel
theorem dX12_bestTax_22 : decode cX12_bestTax 22 = .ok (.invokestatic 50, 3) := by decide +kernel
theorem dX12_bestTax_25 : decode cX12_bestTax 25 = .ok (.ifCond .ne 5, 3) := by decide +kernel
theorem dX12_bestTax_28 : decode cX12_bestTax 28 = .ok (.iconst (-1), 1) := by decide +kernel
theorem dX12_bestTax_29 : decode cX12_bestTax 29 = .ok (.ireturn, 1) := by decide +kernel
theorem dX12_bestTax_30 : decode cX12_bestTax 30 = .ok (.bipush (-4), 2) := by decide +kernel
theorem dX12_bestTax_32 : decode cX12_bestTax 32 = .ok (.istore_n 3, 1) := by decide +kernel
theorem dX12_bestTax_33 : decode cX12_bestTax 33 = .ok (.bipush (-4), 2) := by decide +kernel
theorem dX12_bestTax_35 : decode cX12_bestTax 35 = .ok (.istore 4, 2) := by decide +kernel
theorem dX12_bestTax_37 : decode cX12_bestTax 37 = .ok (.iconst 0, 1) := by decide +kernel
theorem dX12_bestTax_38 : decode cX12_bestTax 38 = .ok (.istore 5, 2) := by decide +kernel
theorem dX12_bestTax_40 : decode cX12_bestTax 40 = .ok (.iload 5, 2) := by decide +kernel
theorem dX12_bestTax_42 : decode cX12_bestTax 42 = .ok (.aload_n 0, 1) := by decide +kernel
theorem dX12_bestTax_43 : decode cX12_bestTax 43 = .ok (.getfield 9, 3) := by decide +kernel
theorem dX12_bestTax_46 : decode cX12_bestTax 46 = .ok (.iconst 0, 1) := by decide +kernel
theorem dX12_bestTax_47 : decode cX12_bestTax 47 = .ok (.iaload, 1) := by decide +kernel
theorem dX12_bestTax_48 : decode cX12_bestTax 48 = .ok (.if_icmp .ge 30, 3) := by decide +kernel
theorem dX12_bestTax_51 : decode cX12_bestTax 51 = .ok (.aload_n 0, 1) := by decide +kernel
theorem dX12_bestTax_52 : decode cX12_bestTax 52 = .ok (.getfield 44, 3) := by decide +kernel
theorem dX12_bestTax_55 : decode cX12_bestTax 55 = .ok (.iload 5, 2) := by decide +kernel
theorem dX12_bestTax_57 : decode cX12_bestTax 57 = .ok (.aload_n 0, 1) := by decide +kernel
theorem dX12_bestTax_58 : decode cX12_bestTax 58 = .ok (.getfield 9, 3) := by decide +kernel
theorem dX12_bestTax_61 : decode cX12_bestTax 61 = .ok (.bipush 19, 2) := by decide +kernel
theorem dX12_bestTax_63 : decode cX12_bestTax 63 = .ok (.iconst 4, 1) := by decide +kernel
theorem dX12_bestTax_64 : decode cX12_bestTax 64 = .ok (.iload_n 1, 1) := by decide +kernel
theorem dX12_bestTax_65 : decode cX12_bestTax 65 = .ok (.imul, 1) := by decide +kernel
theorem dX12_bestTax_66 : decode cX12_bestTax 66 = .ok (.iadd, 1) := by decide +kernel
theorem dX12_bestTax_67 : decode cX12_bestTax 67 = .ok (.iload 5, 2) := by decide +kernel
theorem dX12_bestTax_69 : decode cX12_bestTax 69 = .ok (.iadd, 1) := by decide +kernel
theorem dX12_bestTax_70 : decode cX12_bestTax 70 = .ok (.iaload, 1) := by decide +kernel
theorem dX12_bestTax_71 : decode cX12_bestTax 71 = .ok (.iastore, 1) := by decide +kernel
theorem dX12_bestTax_72 : decode cX12_bestTax 72 = .ok (.iinc 5 1, 3) := by decide +kernel
theorem dX12_bestTax_75 : decode cX12_bestTax 75 = .ok (.goto (-35), 3) := by decide +kernel
theorem dX12_bestTax_78 : decode cX12_bestTax 78 = .ok (.iconst 0, 1) := by decide +kernel
theorem dX12_bestTax_79 : decode cX12_bestTax 79 = .ok (.istore 5, 2) := by decide +kernel
theorem dX12_bestTax_81 : decode cX12_bestTax 81 = .ok (.iload 5, 2) := by decide +kernel
theorem dX12_bestTax_83 : decode cX12_bestTax 83 = .ok (.bipush 100, 2) := by decide +kernel
theorem dX12_bestTax_85 : decode cX12_bestTax 85 = .ok (.if_icmp .ge 154, 3) := by decide +kernel
theorem dX12_bestTax_88 : decode cX12_bestTax 88 = .ok (.iconst 0, 1) := by decide +kernel
theorem dX12_bestTax_89 : decode cX12_bestTax 89 = .ok (.istore 6, 2) := by decide +kernel
theorem dX12_bestTax_91 : decode cX12_bestTax 91 = .ok (.iload 6, 2) := by decide +kernel
theorem dX12_bestTax_93 : decode cX12_bestTax 93 = .ok (.aload_n 0, 1) := by decide +kernel
theorem dX12_bestTax_94 : decode cX12_bestTax 94 = .ok (.invokevirtual 120, 3) := by decide +kernel
theorem dX12_bestTax_97 : decode cX12_bestTax 97 = .ok (.if_icmp .ge 136, 3) := by decide +kernel
theorem dX12_bestTax_100 : decode cX12_bestTax 100 = .ok (.iconst 0, 1) := by decide +kernel
theorem dX12_bestTax_101 : decode cX12_bestTax 101 = .ok (.istore 7, 2) := by decide +kernel
theorem dX12_bestTax_103 : decode cX12_bestTax 103 = .ok (.iload 7, 2) := by decide +kernel
theorem dX12_bestTax_105 : decode cX12_bestTax 105 = .ok (.aload_n 0, 1) := by decide +kernel
theorem dX12_bestTax_106 : decode cX12_bestTax 106 = .ok (.getfield 9, 3) := by decide +kernel
theorem dX12_bestTax_109 : decode cX12_bestTax 109 = .ok (.iconst 0, 1) := by decide +kernel
theorem dX12_bestTax_110 : decode cX12_bestTax 110 = .ok (.iaload, 1) := by decide +kernel
theorem dX12_bestTax_111 : decode cX12_bestTax 111 = .ok (.if_icmp .ge 33, 3) := by decide +kernel
theorem dX12_bestTax_114 : decode cX12_bestTax 114 = .ok (.aload_n 0, 1) := by decide +kernel
theorem dX12_bestTax_115 : decode cX12_bestTax 115 = .ok (.getfield 9, 3) := by decide +kernel
theorem dX12_bestTax_118 : decode cX12_bestTax 118 = .ok (.bipush 19, 2) := by decide +kernel
theorem dX12_bestTax_120 : decode cX12_bestTax 120 = .ok (.iconst 4, 1) := by decide +kernel
theorem dX12_bestTax_121 : decode cX12_bestTax 121 = .ok (.iload_n 1, 1) := by decide +kernel
theorem dX12_bestTax_122 : decode cX12_bestTax 122 = .ok (.imul, 1) := by decide +kernel
theorem dX12_bestTax_123 : decode cX12_bestTax 123 = .ok (.iadd, 1) := by decide +kernel
theorem dX12_bestTax_124 : decode cX12_bestTax 124 = .ok (.iload 7, 2) := by decide +kernel
theorem dX12_bestTax_126 : decode cX12_bestTax 126 = .ok (.iadd, 1) := by decide +kernel
theorem dX12_bestTax_127 : decode cX12_bestTax 127 = .ok (.aload_n 0, 1) := by decide +kernel
theorem dX12_bestTax_128 : decode cX12_bestTax 128 = .ok (.getfield 44, 3) := by decide +kernel
theorem dX12_bestTax_131 : decode cX12_bestTax 131 = .ok (.iload 7, 2) := by decide +kernel
theorem dX12_bestTax_133 : decode cX12_bestTax 133 = .ok (.iaload, 1) := by decide +kernel
theorem dX12_bestTax_134 : decode cX12_bestTax 134 = .ok (.iload 5, 2) := by decide +kernel
theorem dX12_bestTax_136 : decode cX12_bestTax 136 = .ok (.iadd, 1) := by decide +kernel
theorem dX12_bestTax_137 : decode cX12_bestTax 137 = .ok (.iastore, 1) := by decide +kernel
theorem dX12_bestTax_138 : decode cX12_bestTax 138 = .ok (.iinc 7 1, 3) := by decide +kernel
theorem dX12_bestTax_141 : decode cX12_bestTax 141 = .ok (.goto (-38), 3) := by decide +kernel
theorem dX12_bestTax_144 : decode cX12_bestTax 144 = .ok (.aload_n 0, 1) := by decide +kernel
theorem dX12_bestTax_145 : decode cX12_bestTax 145 = .ok (.iload 6, 2) := by decide +kernel
theorem dX12_bestTax_147 : decode cX12_bestTax 147 = .ok (.invokevirtual 170, 3) := by decide +kernel
theorem dX12_bestTax_150 : decode cX12_bestTax 150 = .ok (.istore 7, 2) := by decide +kernel
theorem dX12_bestTax_152 : decode cX12_bestTax 152 = .ok (.iconst 0, 1) := by decide +kernel
theorem dX12_bestTax_153 : decode cX12_bestTax 153 = .ok (.istore 8, 2) := by decide +kernel
theorem dX12_bestTax_155 : decode cX12_bestTax 155 = .ok (.iload 8, 2) := by decide +kernel
theorem dX12_bestTax_157 : decode cX12_bestTax 157 = .ok (.aload_n 0, 1) := by decide +kernel
theorem dX12_bestTax_158 : decode cX12_bestTax 158 = .ok (.getfield 9, 3) := by decide +kernel
theorem dX12_bestTax_161 : decode cX12_bestTax 161 = .ok (.iconst 0, 1) := by decide +kernel
theorem dX12_bestTax_162 : decode cX12_bestTax 162 = .ok (.iaload, 1) := by decide +kernel
theorem dX12_bestTax_163 : decode cX12_bestTax 163 = .ok (.if_icmp .ge 30, 3) := by decide +kernel
theorem dX12_bestTax_166 : decode cX12_bestTax 166 = .ok (.aload_n 0, 1) := by decide +kernel
theorem dX12_bestTax_167 : decode cX12_bestTax 167 = .ok (.getfield 9, 3) := by decide +kernel
theorem dX12_bestTax_170 : decode cX12_bestTax 170 = .ok (.bipush 19, 2) := by decide +kernel
theorem dX12_bestTax_172 : decode cX12_bestTax 172 = .ok (.iconst 4, 1) := by decide +kernel
theorem dX12_bestTax_173 : decode cX12_bestTax 173 = .ok (.iload_n 1, 1) := by decide +kernel
theorem dX12_bestTax_174 : decode cX12_bestTax 174 = .ok (.imul, 1) := by decide +kernel
theorem dX12_bestTax_175 : decode cX12_bestTax 175 = .ok (.iadd, 1) := by decide +kernel
theorem dX12_bestTax_176 : decode cX12_bestTax 176 = .ok (.iload 8, 2) := by decide +kernel
theorem dX12_bestTax_178 : decode cX12_bestTax 178 = .ok (.iadd, 1) := by decide +kernel
theorem dX12_bestTax_179 : decode cX12_bestTax 179 = .ok (.aload_n 0, 1) := by decide +kernel
theorem dX12_bestTax_180 : decode cX12_bestTax 180 = .ok (.getfield 44, 3) := by decide +kernel
theorem dX12_bestTax_183 : decode cX12_bestTax 183 = .ok (.iload 8, 2) := by decide +kernel
theorem dX12_bestTax_185 : decode cX12_bestTax 185 = .ok (.iaload, 1) := by decide +kernel
theorem dX12_bestTax_186 : decode cX12_bestTax 186 = .ok (.iastore, 1) := by decide +kernel
theorem dX12_bestTax_187 : decode cX12_bestTax 187 = .ok (.iinc 8 1, 3) := by decide +kernel
theorem dX12_bestTax_190 : decode cX12_bestTax 190 = .ok (.goto (-35), 3) := by decide +kernel
theorem dX12_bestTax_193 : decode cX12_bestTax 193 = .ok (.iload 7, 2) := by decide +kernel
theorem dX12_bestTax_195 : decode cX12_bestTax 195 = .ok (.ifCond .eq 32, 3) := by decide +kernel
theorem dX12_bestTax_198 : decode cX12_bestTax 198 = .ok (.iload_n 3, 1) := by decide +kernel
theorem dX12_bestTax_199 : decode cX12_bestTax 199 = .ok (.ifCond .lt 17, 3) := by decide +kernel
theorem dX12_bestTax_202 : decode cX12_bestTax 202 = .ok (.aload_n 0, 1) := by decide +kernel
theorem dX12_bestTax_203 : decode cX12_bestTax 203 = .ok (.iload 6, 2) := by decide +kernel
theorem dX12_bestTax_205 : decode cX12_bestTax 205 = .ok (.invokevirtual 190, 3) := by decide +kernel
theorem dX12_bestTax_208 : decode cX12_bestTax 208 = .ok (.iload 4, 2) := by decide +kernel
theorem dX12_bestTax_210 : decode cX12_bestTax 210 = .ok (.if_icmp .lt 6, 3) := by decide +kernel
theorem dX12_bestTax_213 : decode cX12_bestTax 213 = .ok (.goto 14, 3) := by decide +kernel
theorem dX12_bestTax_216 : decode cX12_bestTax 216 = .ok (.iload 5, 2) := by decide +kernel
theorem dX12_bestTax_218 : decode cX12_bestTax 218 = .ok (.istore_n 3, 1) := by decide +kernel
theorem dX12_bestTax_219 : decode cX12_bestTax 219 = .ok (.aload_n 0, 1) := by decide +kernel
theorem dX12_bestTax_220 : decode cX12_bestTax 220 = .ok (.iload 6, 2) := by decide +kernel
theorem dX12_bestTax_222 : decode cX12_bestTax 222 = .ok (.invokevirtual 190, 3) := by decide +kernel
theorem dX12_bestTax_225 : decode cX12_bestTax 225 = .ok (.istore 4, 2) := by decide +kernel
theorem dX12_bestTax_227 : decode cX12_bestTax 227 = .ok (.iinc 6 1, 3) := by decide +kernel
theorem dX12_bestTax_230 : decode cX12_bestTax 230 = .ok (.goto (-139), 3) := by decide +kernel
theorem dX12_bestTax_233 : decode cX12_bestTax 233 = .ok (.iinc 5 10, 3) := by decide +kernel
theorem dX12_bestTax_236 : decode cX12_bestTax 236 = .ok (.goto (-155), 3) := by decide +kernel
theorem dX12_bestTax_239 : decode cX12_bestTax 239 = .ok (.iload_n 2, 1) := by decide +kernel
theorem dX12_bestTax_240 : decode cX12_bestTax 240 = .ok (.ifCond .ne 7, 3) := by decide +kernel
theorem dX12_bestTax_243 : decode cX12_bestTax 243 = .ok (.iload_n 3, 1) := by decide +kernel
theorem dX12_bestTax_244 : decode cX12_bestTax 244 = .ok (.goto 5, 3) := by decide +kernel
theorem dX12_bestTax_247 : decode cX12_bestTax 247 = .ok (.iload 4, 2) := by decide +kernel
theorem dX12_bestTax_249 : decode cX12_bestTax 249 = .ok (.ireturn, 1) := by decide +kernel
set_option maxRecDepth 20000 in
theorem ggX12_moved_X12_isOpen : GoodIn wsX12_moved wsX12_isOpen := goodIn_r _ [6, 1, 56, 57, 58, 59, 60, 61, 62, 63, 64, 65, 66, 67, 68, 69, 70, 71, 72, 73, 74, 75, 76, 77, 78, 79] (by decide +kernel) (by decide +kernel)
set_option maxRecDepth 20000 in
theorem gX12_moved_X12_isOpen : GoodIn wsX12_moved (wsV RX12 102 RX12 yX12_isOpen wsX12_isOpen) := goodIn_app (goodIn_of _ (by decide +kernel)) ggX12_moved_X12_isOpen
set_option maxRecDepth 20000 in
theorem ggX12_moved_X12_isFit : GoodIn wsX12_moved wsX12_isFit := goodIn_r _ [10, 1, 11, 12, 13, 14, 5, 15, 16, 17, 18, 19, 20, 21, 56, 57, 58, 59, 60, 61, 62, 63, 64, 65, 66, 67, 68, 69, 70, 71, 72, 73, 74, 75, 76, 77, 78, 79] (by decide +kernel) (by decide +kernel)
set_option maxRecDepth 20000 in
theorem gX12_moved_X12_isFit : GoodIn wsX12_moved (wsV RX12 154 RX12 yX12_isFit wsX12_isFit) := goodIn_app (goodIn_of _ (by decide +kernel)) ggX12_moved_X12_isFit
set_option maxRecDepth 20000 in
theorem ggX12_moved_X12_isSort : GoodIn wsX12_moved wsX12_isSort := goodIn_r _ [25, 1, 16, 17, 5, 18, 56, 57, 58, 59, 60, 61, 62, 63, 64, 65, 66, 67, 68, 69, 70, 71, 72, 73, 74, 75, 76, 77, 78, 79] (by decide +kernel) (by decide +kernel)
set_option maxRecDepth 20000 in
theorem gX12_moved_X12_isSort : GoodIn wsX12_moved (wsV RX12 105 RX12 yX12_isSort wsX12_isSort) := goodIn_app (goodIn_of _ (by decide +kernel)) ggX12_moved_X12_isSort
set_option maxRecDepth 20000 in
theorem ggX12_moved_X12_isSure : GoodIn wsX12_moved wsX12_isSure := goodIn_r _ [29, 7, 8, 9, 5, 10, 1, 11, 12, 13, 14, 15, 16, 17, 18, 19, 20, 21, 30, 31, 32, 33, 34, 35, 36, 37, 38, 39, 40, 41, 42, 43, 44, 45, 46, 47, 48, 49, 50, 51, 52, 53, 54, 55, 56, 57, 58, 59, 60, 61, 62, 63, 64, 65, 66, 67, 68, 69, 70, 71, 72, 73, 74, 75, 76, 77, 78, 79] (by decide +kernel) (by decide +kernel)
set_option maxRecDepth 20000 in
theorem gX12_moved_X12_isSure : GoodIn wsX12_moved (wsV RX12 170 RX12 yX12_isSure wsX12_isSure) := goodIn_app (goodIn_of _ (by decide +kernel)) ggX12_moved_X12_isSure
theorem dX12_moved_0 : decode cX12_moved 0 = .ok (.aload_n 0, 1) := by decide +kernel
theorem dX12_moved_1 : decode cX12_moved 1 = .ok (.invokevirtual 102, 3) := by decide +kernel
theorem dX12_moved_4 : decode cX12_moved 4 = .ok (.ifCond .ne 6, 3) := by decide +kernel
theorem dX12_moved_7 : decode cX12_moved 7 = .ok (.bipush (-3), 2) := by decide +kernel
theorem dX12_moved_9 : decode cX12_moved 9 = .ok (.ireturn, 1) := by decide +kernel
theorem dX12_moved_10 : decode cX12_moved 10 = .ok (.aload_n 0, 1) := by decide +kernel
theorem dX12_moved_11 : decode cX12_moved 11 = .ok (.iload_n 1, 1) := by decide +kernel
theorem dX12_moved_12 : decode cX12_moved 12 = .ok (.invokevirtual 154, 3) := by decide +kernel
theorem dX12_moved_15 : decode cX12_moved 15 = .ok (.ifCond .eq 24, 3) := by decide +kernel
theorem dX12_moved_18 : decode cX12_moved 18 = .ok (.aload_n 0, 1) := by decide +kernel
theorem dX12_moved_19 : decode cX12_moved 19 = .ok (.iload_n 2, 1) := by decide +kernel
theorem dX12_moved_20 : decode cX12_moved 20 = .ok (.invokevirtual 105, 3) := by decide +kernel
theorem dX12_moved_23 : decode cX12_moved 23 = .ok (.ifCond .eq 16, 3) := by decide +kernel
theorem dX12_moved_26 : decode cX12_moved 26 = .ok (.aload_n 0, 1) := by decide +kernel
theorem dX12_moved_27 : decode cX12_moved 27 = .ok (.iload_n 3, 1) := by decide +kernel
theorem dX12_moved_28 : decode cX12_moved 28 = .ok (.invokevirtual 105, 3) := by decide +kernel
theorem dX12_moved_31 : decode cX12_moved 31 = .ok (.ifCond .eq 8, 3) := by decide +kernel
theorem dX12_moved_34 : decode cX12_moved 34 = .ok (.iload_n 2, 1) := by decide +kernel
theorem dX12_moved_35 : decode cX12_moved 35 = .ok (.iload_n 3, 1) := by decide +kernel
theorem dX12_moved_36 : decode cX12_moved 36 = .ok (.if_icmp .ne 5, 3) := by decide +kernel
theorem dX12_moved_39 : decode cX12_moved 39 = .ok (.iconst (-1), 1) := by decide +kernel
theorem dX12_moved_40 : decode cX12_moved 40 = .ok (.ireturn, 1) := by decide +kernel
theorem dX12_moved_41 : decode cX12_moved 41 = .ok (.aload_n 0, 1) := by decide +kernel
theorem dX12_moved_42 : decode cX12_moved 42 = .ok (.iload_n 1, 1) := by decide +kernel
theorem dX12_moved_43 : decode cX12_moved 43 = .ok (.invokevirtual 170, 3) := by decide +kernel
theorem dX12_moved_46 : decode cX12_moved 46 = .ok (.istore 4, 2) := by decide +kernel
theorem dX12_moved_48 : decode cX12_moved 48 = .ok (.aload_n 0, 1) := by decide +kernel
theorem dX12_moved_49 : decode cX12_moved 49 = .ok (.getfield 9, 3) := by decide +kernel
theorem dX12_moved_52 : decode cX12_moved 52 = .ok (.iconst 3, 1) := by decide +kernel
theorem dX12_moved_53 : decode cX12_moved 53 = .ok (.iload_n 2, 1) := by decide +kernel
theorem dX12_moved_54 : decode cX12_moved 54 = .ok (.iadd, 1) := by decide +kernel
theorem dX12_moved_55 : decode cX12_moved 55 = .ok (.iaload, 1) := by decide +kernel
theorem dX12_moved_56 : decode cX12_moved 56 = .ok (.istore 5, 2) := by decide +kernel
theorem dX12_moved_58 : decode cX12_moved 58 = .ok (.aload_n 0, 1) := by decide +kernel
theorem dX12_moved_59 : decode cX12_moved 59 = .ok (.getfield 9, 3) := by decide +kernel
theorem dX12_moved_62 : decode cX12_moved 62 = .ok (.iconst 3, 1) := by decide +kernel
theorem dX12_moved_63 : decode cX12_moved 63 = .ok (.iload_n 3, 1) := by decide +kernel
theorem dX12_moved_64 : decode cX12_moved 64 = .ok (.iadd, 1) := by decide +kernel
theorem dX12_moved_65 : decode cX12_moved 65 = .ok (.iaload, 1) := by decide +kernel
theorem dX12_moved_66 : decode cX12_moved 66 = .ok (.istore 6, 2) := by decide +kernel
theorem dX12_moved_68 : decode cX12_moved 68 = .ok (.bipush (-4), 2) := by decide +kernel
theorem dX12_moved_70 : decode cX12_moved 70 = .ok (.istore 7, 2) := by decide +kernel
theorem dX12_moved_72 : decode cX12_moved 72 = .ok (.iconst 1, 1) := by decide +kernel
theorem dX12_moved_73 : decode cX12_moved 73 = .ok (.istore 8, 2) := by decide +kernel
theorem dX12_moved_75 : decode cX12_moved 75 = .ok (.iload 8, 2) := by decide +kernel
theorem dX12_moved_77 : decode cX12_moved 77 = .ok (.iload 5, 2) := by decide +kernel
theorem dX12_moved_79 : decode cX12_moved 79 = .ok (.if_icmp .ge 59, 3) := by decide +kernel
theorem dX12_moved_82 : decode cX12_moved 82 = .ok (.iload 7, 2) := by decide +kernel
theorem dX12_moved_84 : decode cX12_moved 84 = .ok (.ifCond .ge 54, 3) := by decide +kernel
theorem dX12_moved_87 : decode cX12_moved 87 = .ok (.aload_n 0, 1) := by decide +kernel
theorem dX12_moved_88 : decode cX12_moved 88 = .ok (.getfield 9, 3) := by decide +kernel
theorem dX12_moved_91 : decode cX12_moved 91 = .ok (.iconst 3, 1) := by decide +kernel
theorem dX12_moved_92 : decode cX12_moved 92 = .ok (.iload_n 2, 1) := by decide +kernel
theorem dX12_moved_93 : decode cX12_moved 93 = .ok (.iadd, 1) := by decide +kernel
theorem dX12_moved_94 : decode cX12_moved 94 = .ok (.iload 5, 2) := by decide +kernel
theorem dX12_moved_96 : decode cX12_moved 96 = .ok (.iload 8, 2) := by decide +kernel
theorem dX12_moved_98 : decode cX12_moved 98 = .ok (.isub, 1) := by decide +kernel
theorem dX12_moved_99 : decode cX12_moved 99 = .ok (.iastore, 1) := by decide +kernel
theorem dX12_moved_100 : decode cX12_moved 100 = .ok (.aload_n 0, 1) := by decide +kernel
theorem dX12_moved_101 : decode cX12_moved 101 = .ok (.getfield 9, 3) := by decide +kernel
theorem dX12_moved_104 : decode cX12_moved 104 = .ok (.iconst 3, 1) := by decide +kernel
theorem dX12_moved_105 : decode cX12_moved 105 = .ok (.iload_n 3, 1) := by decide +kernel
theorem dX12_moved_106 : decode cX12_moved 106 = .ok (.iadd, 1) := by decide +kernel
theorem dX12_moved_107 : decode cX12_moved 107 = .ok (.iload 6, 2) := by decide +kernel
theorem dX12_moved_109 : decode cX12_moved 109 = .ok (.iload 8, 2) := by decide +kernel
theorem dX12_moved_111 : decode cX12_moved 111 = .ok (.iadd, 1) := by decide +kernel
theorem dX12_moved_112 : decode cX12_moved 112 = .ok (.iastore, 1) := by decide +kernel
theorem dX12_moved_113 : decode cX12_moved 113 = .ok (.aload_n 0, 1) := by decide +kernel
theorem dX12_moved_114 : decode cX12_moved 114 = .ok (.iload_n 1, 1) := by decide +kernel
theorem dX12_moved_115 : decode cX12_moved 115 = .ok (.invokevirtual 170, 3) := by decide +kernel
theorem dX12_moved_118 : decode cX12_moved 118 = .ok (.iload 4, 2) := by decide +kernel
theorem dX12_moved_120 : decode cX12_moved 120 = .ok (.if_icmp .ne 8, 3) := by decide +kernel
theorem dX12_moved_123 : decode cX12_moved 123 = .ok (.bipush (-4), 2) := by decide +kernel
theorem dX12_moved_125 : decode cX12_moved 125 = .ok (.goto 5, 3) := by decide +kernel
theorem dX12_moved_128 : decode cX12_moved 128 = .ok (.iload 8, 2) := by decide +kernel
theorem dX12_moved_130 : decode cX12_moved 130 = .ok (.istore 7, 2) := by decide +kernel
theorem dX12_moved_132 : decode cX12_moved 132 = .ok (.iinc 8 1, 3) := by decide +kernel
theorem dX12_moved_135 : decode cX12_moved 135 = .ok (.goto (-60), 3) := by decide +kernel
theorem dX12_moved_138 : decode cX12_moved 138 = .ok (.aload_n 0, 1) := by decide +kernel
theorem dX12_moved_139 : decode cX12_moved 139 = .ok (.getfield 9, 3) := by decide +kernel
theorem dX12_moved_142 : decode cX12_moved 142 = .ok (.iconst 3, 1) := by decide +kernel
theorem dX12_moved_143 : decode cX12_moved 143 = .ok (.iload_n 2, 1) := by decide +kernel
theorem dX12_moved_144 : decode cX12_moved 144 = .ok (.iadd, 1) := by decide +kernel
theorem dX12_moved_145 : decode cX12_moved 145 = .ok (.iload 5, 2) := by decide +kernel
theorem dX12_moved_147 : decode cX12_moved 147 = .ok (.iastore, 1) := by decide +kernel
theorem dX12_moved_148 : decode cX12_moved 148 = .ok (.aload_n 0, 1) := by decide +kernel
theorem dX12_moved_149 : decode cX12_moved 149 = .ok (.getfield 9, 3) := by decide +kernel
theorem dX12_moved_152 : decode cX12_moved 152 = .ok (.iconst 3, 1) := by decide +kernel
theorem dX12_moved_153 : decode cX12_moved 153 = .ok (.iload_n 3, 1) := by decide +kernel
theorem dX12_moved_154 : decode cX12_moved 154 = .ok (.iadd, 1) := by decide +kernel
theorem dX12_moved_155 : decode cX12_moved 155 = .ok (.iload 6, 2) := by decide +kernel
theorem dX12_moved_157 : decode cX12_moved 157 = .ok (.iastore, 1) := by decide +kernel
theorem dX12_moved_158 : decode cX12_moved 158 = .ok (.iload 7, 2) := by decide +kernel
theorem dX12_moved_160 : decode cX12_moved 160 = .ok (.ireturn, 1) := by decide +kernel
set_option maxRecDepth 20000 in
theorem ggX12_image_X12_isOpen : GoodIn wsX12_image wsX12_isOpen := goodIn_r _ [8, 2, 9, 10, 11, 12, 13, 14, 15, 16, 17, 18, 19, 20, 21, 22, 23, 24, 25, 26, 27, 28, 29, 30, 31, 32] (by decide +kernel) (by decide +kernel)
set_option maxRecDepth 20000 in
theorem gX12_image_X12_isOpen : GoodIn wsX12_image (wsV RX12 102 RX12 yX12_isOpen wsX12_isOpen) := goodIn_app (goodIn_of _ (by decide +kernel)) ggX12_image_X12_isOpen
theorem dX12_image_0 : decode cX12_image 0 = .ok (.aload_n 0, 1) := by decide +kernel
theorem dX12_image_1 : decode cX12_image 1 = .ok (.invokevirtual 102, 3) := by decide +kernel
theorem dX12_image_4 : decode cX12_image 4 = .ok (.ifCond .ne 6, 3) := by decide +kernel
theorem dX12_image_7 : decode cX12_image 7 = .ok (.bipush (-3), 2) := by decide +kernel
theorem dX12_image_9 : decode cX12_image 9 = .ok (.ireturn, 1) := by decide +kernel
theorem dX12_image_10 : decode cX12_image 10 = .ok (.iconst 0, 1) := by decide +kernel
theorem dX12_image_11 : decode cX12_image 11 = .ok (.istore_n 1, 1) := by decide +kernel
theorem dX12_image_12 : decode cX12_image 12 = .ok (.iload_n 1, 1) := by decide +kernel
theorem dX12_image_13 : decode cX12_image 13 = .ok (.bipush 39, 2) := by decide +kernel
theorem dX12_image_15 : decode cX12_image 15 = .ok (.if_icmp .ge 21, 3) := by decide +kernel
theorem dX12_image_18 : decode cX12_image 18 = .ok (.aload_n 0, 1) := by decide +kernel
theorem dX12_image_19 : decode cX12_image 19 = .ok (.getfield 13, 3) := by decide +kernel
theorem dX12_image_22 : decode cX12_image 22 = .ok (.iload_n 1, 1) := by decide +kernel
theorem dX12_image_23 : decode cX12_image 23 = .ok (.aload_n 0, 1) := by decide +kernel
theorem dX12_image_24 : decode cX12_image 24 = .ok (.getfield 9, 3) := by decide +kernel
theorem dX12_image_27 : decode cX12_image 27 = .ok (.iload_n 1, 1) := by decide +kernel
theorem dX12_image_28 : decode cX12_image 28 = .ok (.iaload, 1) := by decide +kernel
theorem dX12_image_29 : decode cX12_image 29 = .ok (.iastore, 1) := by decide +kernel
theorem dX12_image_30 : decode cX12_image 30 = .ok (.iinc 1 1, 3) := by decide +kernel
theorem dX12_image_33 : decode cX12_image 33 = .ok (.goto (-21), 3) := by decide +kernel
theorem dX12_image_36 : decode cX12_image 36 = .ok (.aload_n 0, 1) := by decide +kernel
theorem dX12_image_37 : decode cX12_image 37 = .ok (.iconst 1, 1) := by decide +kernel
theorem dX12_image_38 : decode cX12_image 38 = .ok (.putfield 231, 3) := by decide +kernel
theorem dX12_image_41 : decode cX12_image 41 = .ok (.aload_n 0, 1) := by decide +kernel
theorem dX12_image_42 : decode cX12_image 42 = .ok (.getfield 9, 3) := by decide +kernel
theorem dX12_image_45 : decode cX12_image 45 = .ok (.iconst 0, 1) := by decide +kernel
theorem dX12_image_46 : decode cX12_image 46 = .ok (.iaload, 1) := by decide +kernel
theorem dX12_image_47 : decode cX12_image 47 = .ok (.ireturn, 1) := by decide +kernel
theorem dX12_restore_0 : decode cX12_restore 0 = .ok (.aload_n 0, 1) := by decide +kernel
theorem dX12_restore_1 : decode cX12_restore 1 = .ok (.getfield 231, 3) := by decide +kernel
theorem dX12_restore_4 : decode cX12_restore 4 = .ok (.ifCond .ne 6, 3) := by decide +kernel
theorem dX12_restore_7 : decode cX12_restore 7 = .ok (.bipush (-3), 2) := by decide +kernel
theorem dX12_restore_9 : decode cX12_restore 9 = .ok (.ireturn, 1) := by decide +kernel
theorem dX12_restore_10 : decode cX12_restore 10 = .ok (.iconst 0, 1) := by decide +kernel
theorem dX12_restore_11 : decode cX12_restore 11 = .ok (.istore_n 1, 1) := by decide +kernel
theorem dX12_restore_12 : decode cX12_restore 12 = .ok (.iload_n 1, 1) := by decide +kernel
theorem dX12_restore_13 : decode cX12_restore 13 = .ok (.bipush 39, 2) := by decide +kernel
theorem dX12_restore_15 : decode cX12_restore 15 = .ok (.if_icmp .ge 21, 3) := by decide +kernel
theorem dX12_restore_18 : decode cX12_restore 18 = .ok (.aload_n 0, 1) := by decide +kernel
theorem dX12_restore_19 : decode cX12_restore 19 = .ok (.getfield 9, 3) := by decide +kernel
theorem dX12_restore_22 : decode cX12_restore 22 = .ok (.iload_n 1, 1) := by decide +kernel
theorem dX12_restore_23 : decode cX12_restore 23 = .ok (.aload_n 0, 1) := by decide +kernel
theorem dX12_restore_24 : decode cX12_restore 24 = .ok (.getfield 13, 3) := by decide +kernel
theorem dX12_restore_27 : decode cX12_restore 27 = .ok (.iload_n 1, 1) := by decide +kernel
theorem dX12_restore_28 : decode cX12_restore 28 = .ok (.iaload, 1) := by decide +kernel
theorem dX12_restore_29 : decode cX12_restore 29 = .ok (.iastore, 1) := by decide +kernel
theorem dX12_restore_30 : decode cX12_restore 30 = .ok (.iinc 1 1, 3) := by decide +kernel
theorem dX12_restore_33 : decode cX12_restore 33 = .ok (.goto (-21), 3) := by decide +kernel
theorem dX12_restore_36 : decode cX12_restore 36 = .ok (.aload_n 0, 1) := by decide +kernel
theorem dX12_restore_37 : decode cX12_restore 37 = .ok (.getfield 9, 3) := by decide +kernel
theorem dX12_restore_40 : decode cX12_restore 40 = .ok (.iconst 0, 1) := by decide +kernel
theorem dX12_restore_41 : decode cX12_restore 41 = .ok (.iaload, 1) := by decide +kernel
theorem dX12_restore_42 : decode cX12_restore 42 = .ok (.ireturn, 1) := by decide +kernel
theorem dX12_count_0 : decode cX12_count 0 = .ok (.iconst 0, 1) := by decide +kernel
theorem dX12_count_1 : decode cX12_count 1 = .ok (.istore_n 2, 1) := by decide +kernel
theorem dX12_count_2 : decode cX12_count 2 = .ok (.iload_n 1, 1) := by decide +kernel
theorem dX12_count_3 : decode cX12_count 3 = .ok (.tableswitch 176 0 4 #[33, 40, 47, 87, 119], 33) := by decide +kernel
theorem dX12_count_36 : decode cX12_count 36 = .ok (.aload_n 0, 1) := by decide +kernel
theorem dX12_count_37 : decode cX12_count 37 = .ok (.getfield 9, 3) := by decide +kernel
theorem dX12_count_40 : decode cX12_count 40 = .ok (.iconst 0, 1) := by decide +kernel
theorem dX12_count_41 : decode cX12_count 41 = .ok (.iaload, 1) := by decide +kernel
theorem dX12_count_42 : decode cX12_count 42 = .ok (.ireturn, 1) := by decide +kernel
theorem dX12_count_43 : decode cX12_count 43 = .ok (.aload_n 0, 1) := by decide +kernel
theorem dX12_count_44 : decode cX12_count 44 = .ok (.getfield 9, 3) := by decide +kernel
theorem dX12_count_47 : decode cX12_count 47 = .ok (.iconst 1, 1) := by decide +kernel
theorem dX12_count_48 : decode cX12_count 48 = .ok (.iaload, 1) := by decide +kernel
theorem dX12_count_49 : decode cX12_count 49 = .ok (.ireturn, 1) := by decide +kernel
theorem dX12_count_50 : decode cX12_count 50 = .ok (.iconst 0, 1) := by decide +kernel
theorem dX12_count_51 : decode cX12_count 51 = .ok (.istore_n 3, 1) := by decide +kernel
theorem dX12_count_52 : decode cX12_count 52 = .ok (.iload_n 3, 1) := by decide +kernel
theorem dX12_count_53 : decode cX12_count 53 = .ok (.aload_n 0, 1) := by decide +kernel
theorem dX12_count_54 : decode cX12_count 54 = .ok (.getfield 9, 3) := by decide +kernel
theorem dX12_count_57 : decode cX12_count 57 = .ok (.iconst 1, 1) := by decide +kernel
theorem dX12_count_58 : decode cX12_count 58 = .ok (.iaload, 1) := by decide +kernel
theorem dX12_count_59 : decode cX12_count 59 = .ok (.if_icmp .ge 29, 3) := by decide +kernel
theorem dX12_count_62 : decode cX12_count 62 = .ok (.iload_n 2, 1) := by decide +kernel
theorem dX12_count_63 : decode cX12_count 63 = .ok (.aload_n 0, 1) := by decide +kernel
theorem dX12_count_64 : decode cX12_count 64 = .ok (.getfield 9, 3) := by decide +kernel
theorem dX12_count_67 : decode cX12_count 67 = .ok (.bipush 35, 2) := by decide +kernel
theorem dX12_count_69 : decode cX12_count 69 = .ok (.iload_n 3, 1) := by decide +kernel
theorem dX12_count_70 : decode cX12_count 70 = .ok (.iadd, 1) := by decide +kernel
theorem dX12_count_71 : decode cX12_count 71 = .ok (.iaload, 1) := by decide +kernel
theorem dX12_count_72 : decode cX12_count 72 = .ok (.ifCond .le 7, 3) := by decide +kernel
theorem dX12_count_75 : decode cX12_count 75 = .ok (.iconst 1, 1) := by decide +kernel
theorem dX12_count_76 : decode cX12_count 76 = .ok (.goto 4, 3) := by decide +kernel
theorem dX12_count_79 : decode cX12_count 79 = .ok (.iconst 0, 1) := by decide +kernel
theorem dX12_count_80 : decode cX12_count 80 = .ok (.iadd, 1) := by decide +kernel
theorem dX12_count_81 : decode cX12_count 81 = .ok (.istore_n 2, 1) := by decide +kernel
theorem dX12_count_82 : decode cX12_count 82 = .ok (.iinc 3 1, 3) := by decide +kernel
theorem dX12_count_85 : decode cX12_count 85 = .ok (.goto (-33), 3) := by decide +kernel
theorem dX12_count_88 : decode cX12_count 88 = .ok (.iload_n 2, 1) := by decide +kernel
theorem dX12_count_89 : decode cX12_count 89 = .ok (.ireturn, 1) := by decide +kernel
theorem dX12_count_90 : decode cX12_count 90 = .ok (.iconst 0, 1) := by decide +kernel
theorem dX12_count_91 : decode cX12_count 91 = .ok (.istore_n 3, 1) := by decide +kernel
theorem dX12_count_92 : decode cX12_count 92 = .ok (.iload_n 3, 1) := by decide +kernel
theorem dX12_count_93 : decode cX12_count 93 = .ok (.aload_n 0, 1) := by decide +kernel
theorem dX12_count_94 : decode cX12_count 94 = .ok (.getfield 9, 3) := by decide +kernel
theorem dX12_count_97 : decode cX12_count 97 = .ok (.iconst 0, 1) := by decide +kernel
theorem dX12_count_98 : decode cX12_count 98 = .ok (.iaload, 1) := by decide +kernel
theorem dX12_count_99 : decode cX12_count 99 = .ok (.if_icmp .ge 21, 3) := by decide +kernel
theorem dX12_count_102 : decode cX12_count 102 = .ok (.iload_n 2, 1) := by decide +kernel
theorem dX12_count_103 : decode cX12_count 103 = .ok (.aload_n 0, 1) := by decide +kernel
theorem dX12_count_104 : decode cX12_count 104 = .ok (.getfield 9, 3) := by decide +kernel
theorem dX12_count_107 : decode cX12_count 107 = .ok (.bipush 7, 2) := by decide +kernel
theorem dX12_count_109 : decode cX12_count 109 = .ok (.iload_n 3, 1) := by decide +kernel
theorem dX12_count_110 : decode cX12_count 110 = .ok (.iadd, 1) := by decide +kernel
theorem dX12_count_111 : decode cX12_count 111 = .ok (.iaload, 1) := by decide +kernel
theorem dX12_count_112 : decode cX12_count 112 = .ok (.iadd, 1) := by decide +kernel
theorem dX12_count_113 : decode cX12_count 113 = .ok (.istore_n 2, 1) := by decide +kernel
theorem dX12_count_114 : decode cX12_count 114 = .ok (.iinc 3 1, 3) := by decide +kernel
theorem dX12_count_117 : decode cX12_count 117 = .ok (.goto (-25), 3) := by decide +kernel
theorem dX12_count_120 : decode cX12_count 120 = .ok (.iload_n 2, 1) := by decide +kernel
theorem dX12_count_121 : decode cX12_count 121 = .ok (.ireturn, 1) := by decide +kernel
theorem dX12_count_122 : decode cX12_count 122 = .ok (.iconst 0, 1) := by decide +kernel
theorem dX12_count_123 : decode cX12_count 123 = .ok (.istore_n 3, 1) := by decide +kernel
theorem dX12_count_124 : decode cX12_count 124 = .ok (.iload_n 3, 1) := by decide +kernel
theorem dX12_count_125 : decode cX12_count 125 = .ok (.aload_n 0, 1) := by decide +kernel
theorem dX12_count_126 : decode cX12_count 126 = .ok (.getfield 9, 3) := by decide +kernel
theorem dX12_count_129 : decode cX12_count 129 = .ok (.iconst 1, 1) := by decide +kernel
theorem dX12_count_130 : decode cX12_count 130 = .ok (.iaload, 1) := by decide +kernel
theorem dX12_count_131 : decode cX12_count 131 = .ok (.if_icmp .ge 46, 3) := by decide +kernel
theorem dX12_count_134 : decode cX12_count 134 = .ok (.iconst 0, 1) := by decide +kernel
theorem dX12_count_135 : decode cX12_count 135 = .ok (.istore 4, 2) := by decide +kernel
theorem dX12_count_137 : decode cX12_count 137 = .ok (.iload 4, 2) := by decide +kernel
theorem dX12_count_139 : decode cX12_count 139 = .ok (.aload_n 0, 1) := by decide +kernel
theorem dX12_count_140 : decode cX12_count 140 = .ok (.getfield 9, 3) := by decide +kernel
theorem dX12_count_143 : decode cX12_count 143 = .ok (.iconst 0, 1) := by decide +kernel
theorem dX12_count_144 : decode cX12_count 144 = .ok (.iaload, 1) := by decide +kernel
theorem dX12_count_145 : decode cX12_count 145 = .ok (.if_icmp .ge 26, 3) := by decide +kernel
theorem dX12_count_148 : decode cX12_count 148 = .ok (.iload_n 2, 1) := by decide +kernel
theorem dX12_count_149 : decode cX12_count 149 = .ok (.aload_n 0, 1) := by decide +kernel
theorem dX12_count_150 : decode cX12_count 150 = .ok (.getfield 9, 3) := by decide +kernel
theorem dX12_count_153 : decode cX12_count 153 = .ok (.bipush 19, 2) := by decide +kernel
theorem dX12_count_155 : decode cX12_count 155 = .ok (.iconst 4, 1) := by decide +kernel
theorem dX12_count_156 : decode cX12_count 156 = .ok (.iload_n 3, 1) := by decide +kernel
theorem dX12_count_157 : decode cX12_count 157 = .ok (.imul, 1) := by decide +kernel
theorem dX12_count_158 : decode cX12_count 158 = .ok (.iadd, 1) := by decide +kernel
theorem dX12_count_159 : decode cX12_count 159 = .ok (.iload 4, 2) := by decide +kernel
theorem dX12_count_161 : decode cX12_count 161 = .ok (.iadd, 1) := by decide +kernel
theorem dX12_count_162 : decode cX12_count 162 = .ok (.iaload, 1) := by decide +kernel
theorem dX12_count_163 : decode cX12_count 163 = .ok (.iadd, 1) := by decide +kernel
theorem dX12_count_164 : decode cX12_count 164 = .ok (.istore_n 2, 1) := by decide +kernel
theorem dX12_count_165 : decode cX12_count 165 = .ok (.iinc 4 1, 3) := by decide +kernel
theorem dX12_count_168 : decode cX12_count 168 = .ok (.goto (-31), 3) := by decide +kernel
theorem dX12_count_171 : decode cX12_count 171 = .ok (.iinc 3 1, 3) := by decide +kernel
theorem dX12_count_174 : decode cX12_count 174 = .ok (.goto (-50), 3) := by decide +kernel
theorem dX12_count_177 : decode cX12_count 177 = .ok (.iload_n 2, 1) := by decide +kernel
theorem dX12_count_178 : decode cX12_count 178 = .ok (.ireturn, 1) := by decide +kernel
theorem dX12_count_179 : decode cX12_count 179 = .ok (.iconst (-1), 1) := by decide +kernel
theorem dX12_count_180 : decode cX12_count 180 = .ok (.ireturn, 1) := by decide +kernel
set_option maxRecDepth 20000 in
theorem ggX12_keep_X12_isShelf : GoodIn wsX12_keep wsX12_isShelf := goodIn_r _ [9, 10, 11, 12, 8, 13] (by decide +kernel) (by decide +kernel)
set_option maxRecDepth 20000 in
theorem gX12_keep_X12_isShelf : GoodIn wsX12_keep (va_wsS RX12 89 yX12_isShelf wsX12_isShelf) := goodIn_app (goodIn_of _ (by decide +kernel)) ggX12_keep_X12_isShelf
set_option maxRecDepth 20000 in
theorem ggX12_keep_X12_isIn : GoodIn wsX12_keep wsX12_isIn := goodIn_r _ [13] (by decide +kernel) (by decide +kernel)
set_option maxRecDepth 20000 in
theorem gX12_keep_X12_isIn : GoodIn wsX12_keep (va_wsS RX12 50 yX12_isIn wsX12_isIn) := goodIn_app (goodIn_of _ (by decide +kernel)) ggX12_keep_X12_isIn
set_option maxRecDepth 20000 in
theorem ggX12_keep_X12_isOpen : GoodIn wsX12_keep wsX12_isOpen := goodIn_r _ [17, 3, 34, 35, 36, 37, 38, 39, 40, 41, 42, 43, 44, 45, 46, 47, 48, 49, 50, 51, 52, 53, 54, 55, 56, 57] (by decide +kernel) (by decide +kernel)
set_option maxRecDepth 20000 in
theorem gX12_keep_X12_isOpen : GoodIn wsX12_keep (wsV RX12 102 RX12 yX12_isOpen wsX12_isOpen) := goodIn_app (goodIn_of _ (by decide +kernel)) ggX12_keep_X12_isOpen
set_option maxRecDepth 20000 in
theorem ggX12_keep_X12_isFit : GoodIn wsX12_keep wsX12_isFit := goodIn_r _ [21, 3, 22, 23, 24, 25, 8, 26, 11, 12, 13, 27, 28, 29, 34, 35, 36, 37, 38, 39, 40, 41, 42, 43, 44, 45, 46, 47, 48, 49, 50, 51, 52, 53, 54, 55, 56, 57] (by decide +kernel) (by decide +kernel)
set_option maxRecDepth 20000 in
theorem gX12_keep_X12_isFit : GoodIn wsX12_keep (wsV RX12 154 RX12 yX12_isFit wsX12_isFit) := goodIn_app (goodIn_of _ (by decide +kernel)) ggX12_keep_X12_isFit
set_option maxRecDepth 20000 in
theorem ggX12_keep_X12_isMade : GoodIn wsX12_keep wsX12_isMade := goodIn_r _ [33, 3, 27, 28, 8, 29, 34, 35, 36, 37, 38, 39, 40, 41, 42, 43, 44, 45, 46, 47, 48, 49, 50, 51, 52, 53, 54, 55, 56, 57] (by decide +kernel) (by decide +kernel)
set_option maxRecDepth 20000 in
theorem gX12_keep_X12_isMade : GoodIn wsX12_keep (wsV RX12 179 RX12 yX12_isMade wsX12_isMade) := goodIn_app (goodIn_of _ (by decide +kernel)) ggX12_keep_X12_isMade
set_option maxRecDepth 20000 in
theorem ggX12_keep_X12_made : GoodIn wsX12_keep wsX12_made := goodIn_r _ [29] (by decide +kernel) (by decide +kernel)
set_option maxRecDepth 20000 in
theorem gX12_keep_X12_made : GoodIn wsX12_keep (va_wsS RX12 123 yX12_made wsX12_made) := goodIn_app (goodIn_of _ (by decide +kernel)) ggX12_keep_X12_made
theorem dX12_keep_0 : decode cX12_keep 0 = .ok (.iload_n 1, 1) := by decide +kernel
theorem dX12_keep_1 : decode cX12_keep 1 = .ok (.invokestatic 89, 3) := by decide +kernel
theorem dX12_keep_4 : decode cX12_keep 4 = .ok (.ifCond .eq 13, 3) := by decide +kernel
theorem dX12_keep_7 : decode cX12_keep 7 = .ok (.iload_n 2, 1) := by decide +kernel
theorem dX12_keep_8 : decode cX12_keep 8 = .ok (.i2l, 1) := by decide +kernel
theorem dX12_keep_9 : decode cX12_keep 9 = .ok (.lconst 0, 1) := by decide +kernel
theorem dX12_keep_10 : decode cX12_keep 10 = .ok (.lconst 1, 1) := by decide +kernel
theorem dX12_keep_11 : decode cX12_keep 11 = .ok (.invokestatic 50, 3) := by decide +kernel
theorem dX12_keep_14 : decode cX12_keep 14 = .ok (.ifCond .ne 5, 3) := by decide +kernel
theorem dX12_keep_17 : decode cX12_keep 17 = .ok (.iconst (-1), 1) := by decide +kernel
theorem dX12_keep_18 : decode cX12_keep 18 = .ok (.ireturn, 1) := by decide +kernel
theorem dX12_keep_19 : decode cX12_keep 19 = .ok (.iload_n 2, 1) := by decide +kernel
theorem dX12_keep_20 : decode cX12_keep 20 = .ok (.iconst 1, 1) := by decide +kernel
theorem dX12_keep_21 : decode cX12_keep 21 = .ok (.if_icmp .ne 13, 3) := by decide +kernel
theorem dX12_keep_24 : decode cX12_keep 24 = .ok (.aload_n 0, 1) := by decide +kernel
theorem dX12_keep_25 : decode cX12_keep 25 = .ok (.invokevirtual 102, 3) := by decide +kernel
theorem dX12_keep_28 : decode cX12_keep 28 = .ok (.ifCond .ne 6, 3) := by decide +kernel
theorem dX12_keep_31 : decode cX12_keep 31 = .ok (.bipush (-3), 2) := by decide +kernel
theorem dX12_keep_33 : decode cX12_keep 33 = .ok (.ireturn, 1) := by decide +kernel
theorem dX12_keep_34 : decode cX12_keep 34 = .ok (.iload_n 2, 1) := by decide +kernel
theorem dX12_keep_35 : decode cX12_keep 35 = .ok (.iconst 1, 1) := by decide +kernel
theorem dX12_keep_36 : decode cX12_keep 36 = .ok (.if_icmp .ne 26, 3) := by decide +kernel
theorem dX12_keep_39 : decode cX12_keep 39 = .ok (.iload_n 3, 1) := by decide +kernel
theorem dX12_keep_40 : decode cX12_keep 40 = .ok (.i2l, 1) := by decide +kernel
theorem dX12_keep_41 : decode cX12_keep 41 = .ok (.lconst 0, 1) := by decide +kernel
theorem dX12_keep_42 : decode cX12_keep 42 = .ok (.ldc2_w 234, 3) := by decide +kernel
theorem dX12_keep_45 : decode cX12_keep 45 = .ok (.invokestatic 50, 3) := by decide +kernel
theorem dX12_keep_48 : decode cX12_keep 48 = .ok (.ifCond .eq 12, 3) := by decide +kernel
theorem dX12_keep_51 : decode cX12_keep 51 = .ok (.aload_n 0, 1) := by decide +kernel
theorem dX12_keep_52 : decode cX12_keep 52 = .ok (.iload 4, 2) := by decide +kernel
theorem dX12_keep_54 : decode cX12_keep 54 = .ok (.invokevirtual 154, 3) := by decide +kernel
theorem dX12_keep_57 : decode cX12_keep 57 = .ok (.ifCond .ne 5, 3) := by decide +kernel
theorem dX12_keep_60 : decode cX12_keep 60 = .ok (.iconst (-1), 1) := by decide +kernel
theorem dX12_keep_61 : decode cX12_keep 61 = .ok (.ireturn, 1) := by decide +kernel
theorem dX12_keep_62 : decode cX12_keep 62 = .ok (.aload_n 0, 1) := by decide +kernel
theorem dX12_keep_63 : decode cX12_keep 63 = .ok (.getfield 19, 3) := by decide +kernel
theorem dX12_keep_66 : decode cX12_keep 66 = .ok (.iload_n 1, 1) := by decide +kernel
theorem dX12_keep_67 : decode cX12_keep 67 = .ok (.iload_n 2, 1) := by decide +kernel
theorem dX12_keep_68 : decode cX12_keep 68 = .ok (.iastore, 1) := by decide +kernel
theorem dX12_keep_69 : decode cX12_keep 69 = .ok (.iload_n 2, 1) := by decide +kernel
theorem dX12_keep_70 : decode cX12_keep 70 = .ok (.ifCond .ne 5, 3) := by decide +kernel
theorem dX12_keep_73 : decode cX12_keep 73 = .ok (.iconst 0, 1) := by decide +kernel
theorem dX12_keep_74 : decode cX12_keep 74 = .ok (.ireturn, 1) := by decide +kernel
theorem dX12_keep_75 : decode cX12_keep 75 = .ok (.iconst 0, 1) := by decide +kernel
theorem dX12_keep_76 : decode cX12_keep 76 = .ok (.istore 5, 2) := by decide +kernel
theorem dX12_keep_78 : decode cX12_keep 78 = .ok (.iconst 0, 1) := by decide +kernel
theorem dX12_keep_79 : decode cX12_keep 79 = .ok (.istore 6, 2) := by decide +kernel
theorem dX12_keep_81 : decode cX12_keep 81 = .ok (.iconst 0, 1) := by decide +kernel
theorem dX12_keep_82 : decode cX12_keep 82 = .ok (.istore 7, 2) := by decide +kernel
theorem dX12_keep_84 : decode cX12_keep 84 = .ok (.iload 7, 2) := by decide +kernel
theorem dX12_keep_86 : decode cX12_keep 86 = .ok (.aload_n 0, 1) := by decide +kernel
theorem dX12_keep_87 : decode cX12_keep 87 = .ok (.getfield 9, 3) := by decide +kernel
theorem dX12_keep_90 : decode cX12_keep 90 = .ok (.iconst 1, 1) := by decide +kernel
theorem dX12_keep_91 : decode cX12_keep 91 = .ok (.iaload, 1) := by decide +kernel
theorem dX12_keep_92 : decode cX12_keep 92 = .ok (.if_icmp .ge 30, 3) := by decide +kernel
theorem dX12_keep_95 : decode cX12_keep 95 = .ok (.iload 5, 2) := by decide +kernel
theorem dX12_keep_97 : decode cX12_keep 97 = .ok (.aload_n 0, 1) := by decide +kernel
theorem dX12_keep_98 : decode cX12_keep 98 = .ok (.iload 4, 2) := by decide +kernel
theorem dX12_keep_100 : decode cX12_keep 100 = .ok (.iload 7, 2) := by decide +kernel
theorem dX12_keep_102 : decode cX12_keep 102 = .ok (.invokevirtual 179, 3) := by decide +kernel
theorem dX12_keep_105 : decode cX12_keep 105 = .ok (.ifCond .eq 7, 3) := by decide +kernel
theorem dX12_keep_108 : decode cX12_keep 108 = .ok (.iconst 1, 1) := by decide +kernel
theorem dX12_keep_109 : decode cX12_keep 109 = .ok (.goto 4, 3) := by decide +kernel
theorem dX12_keep_112 : decode cX12_keep 112 = .ok (.iconst 0, 1) := by decide +kernel
theorem dX12_keep_113 : decode cX12_keep 113 = .ok (.iadd, 1) := by decide +kernel
theorem dX12_keep_114 : decode cX12_keep 114 = .ok (.istore 5, 2) := by decide +kernel
theorem dX12_keep_116 : decode cX12_keep 116 = .ok (.iinc 7 1, 3) := by decide +kernel
theorem dX12_keep_119 : decode cX12_keep 119 = .ok (.goto (-35), 3) := by decide +kernel
theorem dX12_keep_122 : decode cX12_keep 122 = .ok (.iconst 0, 1) := by decide +kernel
theorem dX12_keep_123 : decode cX12_keep 123 = .ok (.istore 7, 2) := by decide +kernel
theorem dX12_keep_125 : decode cX12_keep 125 = .ok (.iload 7, 2) := by decide +kernel
theorem dX12_keep_127 : decode cX12_keep 127 = .ok (.aload_n 0, 1) := by decide +kernel
theorem dX12_keep_128 : decode cX12_keep 128 = .ok (.getfield 9, 3) := by decide +kernel
theorem dX12_keep_131 : decode cX12_keep 131 = .ok (.iconst 0, 1) := by decide +kernel
theorem dX12_keep_132 : decode cX12_keep 132 = .ok (.iaload, 1) := by decide +kernel
theorem dX12_keep_133 : decode cX12_keep 133 = .ok (.if_icmp .ge 30, 3) := by decide +kernel
theorem dX12_keep_136 : decode cX12_keep 136 = .ok (.iload 6, 2) := by decide +kernel
theorem dX12_keep_138 : decode cX12_keep 138 = .ok (.iload 4, 2) := by decide +kernel
theorem dX12_keep_140 : decode cX12_keep 140 = .ok (.iload 7, 2) := by decide +kernel
theorem dX12_keep_142 : decode cX12_keep 142 = .ok (.invokestatic 123, 3) := by decide +kernel
theorem dX12_keep_145 : decode cX12_keep 145 = .ok (.iconst 4, 1) := by decide +kernel
theorem dX12_keep_146 : decode cX12_keep 146 = .ok (.if_icmp .ne 7, 3) := by decide +kernel
theorem dX12_keep_149 : decode cX12_keep 149 = .ok (.iconst 1, 1) := by decide +kernel
theorem dX12_keep_150 : decode cX12_keep 150 = .ok (.goto 4, 3) := by decide +kernel
theorem dX12_keep_153 : decode cX12_keep 153 = .ok (.iconst 0, 1) := by decide +kernel
theorem dX12_keep_154 : decode cX12_keep 154 = .ok (.iadd, 1) := by decide +kernel
theorem dX12_keep_155 : decode cX12_keep 155 = .ok (.istore 6, 2) := by decide +kernel
theorem dX12_keep_157 : decode cX12_keep 157 = .ok (.iinc 7 1, 3) := by decide +kernel
theorem dX12_keep_160 : decode cX12_keep 160 = .ok (.goto (-35), 3) := by decide +kernel
theorem dX12_keep_163 : decode cX12_keep 163 = .ok (.aload_n 0, 1) := by decide +kernel
theorem dX12_keep_164 : decode cX12_keep 164 = .ok (.getfield 31, 3) := by decide +kernel
theorem dX12_keep_167 : decode cX12_keep 167 = .ok (.iload_n 1, 1) := by decide +kernel
theorem dX12_keep_168 : decode cX12_keep 168 = .ok (.iload_n 3, 1) := by decide +kernel
theorem dX12_keep_169 : decode cX12_keep 169 = .ok (.ifCond .ne 8, 3) := by decide +kernel
theorem dX12_keep_172 : decode cX12_keep 172 = .ok (.iload 5, 2) := by decide +kernel
theorem dX12_keep_174 : decode cX12_keep 174 = .ok (.goto 60, 3) := by decide +kernel
theorem dX12_keep_177 : decode cX12_keep 177 = .ok (.iload_n 3, 1) := by decide +kernel
theorem dX12_keep_178 : decode cX12_keep 178 = .ok (.iconst 1, 1) := by decide +kernel
theorem dX12_keep_179 : decode cX12_keep 179 = .ok (.if_icmp .ne 10, 3) := by decide +kernel
theorem dX12_keep_182 : decode cX12_keep 182 = .ok (.iconst 2, 1) := by decide +kernel
theorem dX12_keep_183 : decode cX12_keep 183 = .ok (.iload 5, 2) := by decide +kernel
theorem dX12_keep_185 : decode cX12_keep 185 = .ok (.imul, 1) := by decide +kernel
theorem dX12_keep_186 : decode cX12_keep 186 = .ok (.goto 48, 3) := by decide +kernel
theorem dX12_keep_189 : decode cX12_keep 189 = .ok (.iload_n 3, 1) := by decide +kernel
theorem dX12_keep_190 : decode cX12_keep 190 = .ok (.iconst 2, 1) := by decide +kernel
theorem dX12_keep_191 : decode cX12_keep 191 = .ok (.if_icmp .ne 10, 3) := by decide +kernel
theorem dX12_keep_194 : decode cX12_keep 194 = .ok (.iload 5, 2) := by decide +kernel
theorem dX12_keep_196 : decode cX12_keep 196 = .ok (.iconst 5, 1) := by decide +kernel
theorem dX12_keep_197 : decode cX12_keep 197 = .ok (.iadd, 1) := by decide +kernel
theorem dX12_keep_198 : decode cX12_keep 198 = .ok (.goto 36, 3) := by decide +kernel
theorem dX12_keep_201 : decode cX12_keep 201 = .ok (.iload_n 3, 1) := by decide +kernel
theorem dX12_keep_202 : decode cX12_keep 202 = .ok (.iconst 3, 1) := by decide +kernel
theorem dX12_keep_203 : decode cX12_keep 203 = .ok (.if_icmp .ne 11, 3) := by decide +kernel
theorem dX12_keep_206 : decode cX12_keep 206 = .ok (.iload 5, 2) := by decide +kernel
theorem dX12_keep_208 : decode cX12_keep 208 = .ok (.iload 6, 2) := by decide +kernel
theorem dX12_keep_210 : decode cX12_keep 210 = .ok (.iadd, 1) := by decide +kernel
theorem dX12_keep_211 : decode cX12_keep 211 = .ok (.goto 23, 3) := by decide +kernel
theorem dX12_keep_214 : decode cX12_keep 214 = .ok (.iload_n 3, 1) := by decide +kernel
theorem dX12_keep_215 : decode cX12_keep 215 = .ok (.iconst 4, 1) := by decide +kernel
theorem dX12_keep_216 : decode cX12_keep 216 = .ok (.if_icmp .ne 12, 3) := by decide +kernel
theorem dX12_keep_219 : decode cX12_keep 219 = .ok (.iconst 2, 1) := by decide +kernel
theorem dX12_keep_220 : decode cX12_keep 220 = .ok (.iload 5, 2) := by decide +kernel
theorem dX12_keep_222 : decode cX12_keep 222 = .ok (.imul, 1) := by decide +kernel
theorem dX12_keep_223 : decode cX12_keep 223 = .ok (.iconst 1, 1) := by decide +kernel
theorem dX12_keep_224 : decode cX12_keep 224 = .ok (.iadd, 1) := by decide +kernel
theorem dX12_keep_225 : decode cX12_keep 225 = .ok (.goto 9, 3) := by decide +kernel
theorem dX12_keep_228 : decode cX12_keep 228 = .ok (.iconst 2, 1) := by decide +kernel
theorem dX12_keep_229 : decode cX12_keep 229 = .ok (.iload 5, 2) := by decide +kernel
theorem dX12_keep_231 : decode cX12_keep 231 = .ok (.iconst 5, 1) := by decide +kernel
theorem dX12_keep_232 : decode cX12_keep 232 = .ok (.iadd, 1) := by decide +kernel
theorem dX12_keep_233 : decode cX12_keep 233 = .ok (.imul, 1) := by decide +kernel
theorem dX12_keep_234 : decode cX12_keep 234 = .ok (.iastore, 1) := by decide +kernel
theorem dX12_keep_235 : decode cX12_keep 235 = .ok (.aload_n 0, 1) := by decide +kernel
theorem dX12_keep_236 : decode cX12_keep 236 = .ok (.getfield 34, 3) := by decide +kernel
theorem dX12_keep_239 : decode cX12_keep 239 = .ok (.iload_n 1, 1) := by decide +kernel
theorem dX12_keep_240 : decode cX12_keep 240 = .ok (.iload_n 3, 1) := by decide +kernel
theorem dX12_keep_241 : decode cX12_keep 241 = .ok (.iconst 3, 1) := by decide +kernel
theorem dX12_keep_242 : decode cX12_keep 242 = .ok (.if_icmp .eq 8, 3) := by decide +kernel
theorem dX12_keep_245 : decode cX12_keep 245 = .ok (.iload 5, 2) := by decide +kernel
theorem dX12_keep_247 : decode cX12_keep 247 = .ok (.ifCond .ne 8, 3) := by decide +kernel
theorem dX12_keep_250 : decode cX12_keep 250 = .ok (.bipush (-15), 2) := by decide +kernel
theorem dX12_keep_252 : decode cX12_keep 252 = .ok (.goto 29, 3) := by decide +kernel
theorem dX12_keep_255 : decode cX12_keep 255 = .ok (.iload_n 3, 1) := by decide +kernel
theorem dX12_keep_256 : decode cX12_keep 256 = .ok (.iconst 4, 1) := by decide +kernel
theorem dX12_keep_257 : decode cX12_keep 257 = .ok (.if_icmp .ne 12, 3) := by decide +kernel
theorem dX12_keep_260 : decode cX12_keep 260 = .ok (.sipush 1000, 3) := by decide +kernel
theorem dX12_keep_263 : decode cX12_keep 263 = .ok (.iload 4, 2) := by decide +kernel
theorem dX12_keep_265 : decode cX12_keep 265 = .ok (.iadd, 1) := by decide +kernel
theorem dX12_keep_266 : decode cX12_keep 266 = .ok (.goto 15, 3) := by decide +kernel
theorem dX12_keep_269 : decode cX12_keep 269 = .ok (.iload_n 3, 1) := by decide +kernel
theorem dX12_keep_270 : decode cX12_keep 270 = .ok (.iconst 5, 1) := by decide +kernel
theorem dX12_keep_271 : decode cX12_keep 271 = .ok (.if_icmp .ne 8, 3) := by decide +kernel
theorem dX12_keep_274 : decode cX12_keep 274 = .ok (.iload 5, 2) := by decide +kernel
theorem dX12_keep_276 : decode cX12_keep 276 = .ok (.goto 5, 3) := by decide +kernel
theorem dX12_keep_279 : decode cX12_keep 279 = .ok (.iload 4, 2) := by decide +kernel
theorem dX12_keep_281 : decode cX12_keep 281 = .ok (.iastore, 1) := by decide +kernel
theorem dX12_keep_282 : decode cX12_keep 282 = .ok (.iconst 0, 1) := by decide +kernel
theorem dX12_keep_283 : decode cX12_keep 283 = .ok (.ireturn, 1) := by decide +kernel
set_option maxRecDepth 20000 in
theorem ggX12_row_X12_isShelf : GoodIn wsX12_row wsX12_isShelf := goodIn_r _ [9, 10, 11, 12, 8, 13] (by decide +kernel) (by decide +kernel)
set_option maxRecDepth 20000 in
theorem gX12_row_X12_isShelf : GoodIn wsX12_row (va_wsS RX12 89 yX12_isShelf wsX12_isShelf) := goodIn_app (goodIn_of _ (by decide +kernel)) ggX12_row_X12_isShelf
set_option maxRecDepth 20000 in
theorem ggX12_row_X12_isIn : GoodIn wsX12_row wsX12_isIn := goodIn_r _ [13] (by decide +kernel) (by decide +kernel)
set_option maxRecDepth 20000 in
theorem gX12_row_X12_isIn : GoodIn wsX12_row (va_wsS RX12 50 yX12_isIn wsX12_isIn) := goodIn_app (goodIn_of _ (by decide +kernel)) ggX12_row_X12_isIn
theorem dX12_row_0 : decode cX12_row 0 = .ok (.iload_n 1, 1) := by decide +kernel
theorem dX12_row_1 : decode cX12_row 1 = .ok (.invokestatic 89, 3) := by decide +kernel
theorem dX12_row_4 : decode cX12_row 4 = .ok (.ifCond .eq 21, 3) := by decide +kernel
theorem dX12_row_7 : decode cX12_row 7 = .ok (.iload_n 2, 1) := by decide +kernel
theorem dX12_row_8 : decode cX12_row 8 = .ok (.i2l, 1) := by decide +kernel
theorem dX12_row_9 : decode cX12_row 9 = .ok (.lconst 0, 1) := by decide +kernel
theorem dX12_row_10 : decode cX12_row 10 = .ok (.ldc2_w 108, 3) := by decide +kernel
theorem dX12_row_13 : decode cX12_row 13 = .ok (.invokestatic 50, 3) := by decide +kernel
theorem dX12_row_16 : decode cX12_row 16 = .ok (.ifCond .eq 9, 3) := by decide +kernel
theorem dX12_row_19 : decode cX12_row 19 = .ok (.iload_n 3, 1) := by decide +kernel
theorem dX12_row_20 : decode cX12_row 20 = .ok (.bipush 120, 2) := by decide +kernel
theorem dX12_row_22 : decode cX12_row 22 = .ok (.if_icmp .le 5, 3) := by decide +kernel
theorem dX12_row_25 : decode cX12_row 25 = .ok (.iconst (-1), 1) := by decide +kernel
theorem dX12_row_26 : decode cX12_row 26 = .ok (.ireturn, 1) := by decide +kernel
theorem dX12_row_27 : decode cX12_row 27 = .ok (.iload_n 3, 1) := by decide +kernel
theorem dX12_row_28 : decode cX12_row 28 = .ok (.ifCond .ge 6, 3) := by decide +kernel
theorem dX12_row_31 : decode cX12_row 31 = .ok (.bipush (-14), 2) := by decide +kernel
theorem dX12_row_33 : decode cX12_row 33 = .ok (.ireturn, 1) := by decide +kernel
theorem dX12_row_34 : decode cX12_row 34 = .ok (.aload_n 0, 1) := by decide +kernel
theorem dX12_row_35 : decode cX12_row 35 = .ok (.getfield 19, 3) := by decide +kernel
theorem dX12_row_38 : decode cX12_row 38 = .ok (.iload_n 1, 1) := by decide +kernel
theorem dX12_row_39 : decode cX12_row 39 = .ok (.iconst 2, 1) := by decide +kernel
theorem dX12_row_40 : decode cX12_row 40 = .ok (.iastore, 1) := by decide +kernel
theorem dX12_row_41 : decode cX12_row 41 = .ok (.aload_n 0, 1) := by decide +kernel
theorem dX12_row_42 : decode cX12_row 42 = .ok (.getfield 22, 3) := by decide +kernel
theorem dX12_row_45 : decode cX12_row 45 = .ok (.iload_n 1, 1) := by decide +kernel
theorem dX12_row_46 : decode cX12_row 46 = .ok (.iload_n 2, 1) := by decide +kernel
theorem dX12_row_47 : decode cX12_row 47 = .ok (.iastore, 1) := by decide +kernel
theorem dX12_row_48 : decode cX12_row 48 = .ok (.aload_n 0, 1) := by decide +kernel
theorem dX12_row_49 : decode cX12_row 49 = .ok (.getfield 25, 3) := by decide +kernel
theorem dX12_row_52 : decode cX12_row 52 = .ok (.iload_n 1, 1) := by decide +kernel
theorem dX12_row_53 : decode cX12_row 53 = .ok (.iload_n 3, 1) := by decide +kernel
theorem dX12_row_54 : decode cX12_row 54 = .ok (.iastore, 1) := by decide +kernel
theorem dX12_row_55 : decode cX12_row 55 = .ok (.iconst 0, 1) := by decide +kernel
theorem dX12_row_56 : decode cX12_row 56 = .ok (.istore 4, 2) := by decide +kernel
theorem dX12_row_58 : decode cX12_row 58 = .ok (.iload 4, 2) := by decide +kernel
theorem dX12_row_60 : decode cX12_row 60 = .ok (.bipush 120, 2) := by decide +kernel
theorem dX12_row_62 : decode cX12_row 62 = .ok (.if_icmp .ge 22, 3) := by decide +kernel
theorem dX12_row_65 : decode cX12_row 65 = .ok (.aload_n 0, 1) := by decide +kernel
theorem dX12_row_66 : decode cX12_row 66 = .ok (.getfield 28, 3) := by decide +kernel
theorem dX12_row_69 : decode cX12_row 69 = .ok (.bipush 120, 2) := by decide +kernel
theorem dX12_row_71 : decode cX12_row 71 = .ok (.iload_n 1, 1) := by decide +kernel
theorem dX12_row_72 : decode cX12_row 72 = .ok (.imul, 1) := by decide +kernel
theorem dX12_row_73 : decode cX12_row 73 = .ok (.iload 4, 2) := by decide +kernel
theorem dX12_row_75 : decode cX12_row 75 = .ok (.iadd, 1) := by decide +kernel
theorem dX12_row_76 : decode cX12_row 76 = .ok (.iconst 0, 1) := by decide +kernel
theorem dX12_row_77 : decode cX12_row 77 = .ok (.iastore, 1) := by decide +kernel
theorem dX12_row_78 : decode cX12_row 78 = .ok (.iinc 4 1, 3) := by decide +kernel
theorem dX12_row_81 : decode cX12_row 81 = .ok (.goto (-23), 3) := by decide +kernel
theorem dX12_row_84 : decode cX12_row 84 = .ok (.iconst 0, 1) := by decide +kernel
theorem dX12_row_85 : decode cX12_row 85 = .ok (.ireturn, 1) := by decide +kernel
set_option maxRecDepth 20000 in
theorem ggX12_put_X12_wrongRow : GoodIn wsX12_put wsX12_wrongRow := goodIn_r _ [8, 9, 3, 10, 11, 7, 12, 13, 14, 15, 16, 17, 18, 19, 20, 21, 22, 23, 24, 25, 26, 27, 28, 29, 30, 31, 32, 33, 34, 35, 36, 37, 38, 39, 40] (by decide +kernel) (by decide +kernel)
set_option maxRecDepth 20000 in
theorem gX12_put_X12_wrongRow : GoodIn wsX12_put (wsV RX12 92 RX12 yX12_wrongRow wsX12_wrongRow) := goodIn_app (goodIn_of _ (by decide +kernel)) ggX12_put_X12_wrongRow
set_option maxRecDepth 20000 in
theorem ggX12_put_X12_isIn : GoodIn wsX12_put wsX12_isIn := goodIn_r _ [16] (by decide +kernel) (by decide +kernel)
set_option maxRecDepth 20000 in
theorem gX12_put_X12_isIn : GoodIn wsX12_put (va_wsS RX12 50 yX12_isIn wsX12_isIn) := goodIn_app (goodIn_of _ (by decide +kernel)) ggX12_put_X12_isIn
theorem dX12_put_0 : decode cX12_put 0 = .ok (.aload_n 0, 1) := by decide +kernel
theorem dX12_put_1 : decode cX12_put 1 = .ok (.iload_n 1, 1) := by decide +kernel
theorem dX12_put_2 : decode cX12_put 2 = .ok (.iconst (-1), 1) := by decide +kernel
theorem dX12_put_3 : decode cX12_put 3 = .ok (.invokevirtual 92, 3) := by decide +kernel
theorem dX12_put_6 : decode cX12_put 6 = .ok (.istore 4, 2) := by decide +kernel
theorem dX12_put_8 : decode cX12_put 8 = .ok (.iload 4, 2) := by decide +kernel
theorem dX12_put_10 : decode cX12_put 10 = .ok (.ifCond .eq 6, 3) := by decide +kernel
theorem dX12_put_13 : decode cX12_put 13 = .ok (.iload 4, 2) := by decide +kernel
theorem dX12_put_15 : decode cX12_put 15 = .ok (.ireturn, 1) := by decide +kernel
theorem dX12_put_16 : decode cX12_put 16 = .ok (.iload_n 2, 1) := by decide +kernel
theorem dX12_put_17 : decode cX12_put 17 = .ok (.i2l, 1) := by decide +kernel
theorem dX12_put_18 : decode cX12_put 18 = .ok (.lconst 0, 1) := by decide +kernel
theorem dX12_put_19 : decode cX12_put 19 = .ok (.aload_n 0, 1) := by decide +kernel
theorem dX12_put_20 : decode cX12_put 20 = .ok (.getfield 25, 3) := by decide +kernel
theorem dX12_put_23 : decode cX12_put 23 = .ok (.iload_n 1, 1) := by decide +kernel
theorem dX12_put_24 : decode cX12_put 24 = .ok (.iaload, 1) := by decide +kernel
theorem dX12_put_25 : decode cX12_put 25 = .ok (.iconst 1, 1) := by decide +kernel
theorem dX12_put_26 : decode cX12_put 26 = .ok (.isub, 1) := by decide +kernel
theorem dX12_put_27 : decode cX12_put 27 = .ok (.i2l, 1) := by decide +kernel
theorem dX12_put_28 : decode cX12_put 28 = .ok (.invokestatic 50, 3) := by decide +kernel
theorem dX12_put_31 : decode cX12_put 31 = .ok (.ifCond .ne 6, 3) := by decide +kernel
theorem dX12_put_34 : decode cX12_put 34 = .ok (.bipush (-13), 2) := by decide +kernel
theorem dX12_put_36 : decode cX12_put 36 = .ok (.ireturn, 1) := by decide +kernel
theorem dX12_put_37 : decode cX12_put 37 = .ok (.aload_n 0, 1) := by decide +kernel
theorem dX12_put_38 : decode cX12_put 38 = .ok (.getfield 28, 3) := by decide +kernel
theorem dX12_put_41 : decode cX12_put 41 = .ok (.bipush 120, 2) := by decide +kernel
theorem dX12_put_43 : decode cX12_put 43 = .ok (.iload_n 1, 1) := by decide +kernel
theorem dX12_put_44 : decode cX12_put 44 = .ok (.imul, 1) := by decide +kernel
theorem dX12_put_45 : decode cX12_put 45 = .ok (.iload_n 2, 1) := by decide +kernel
theorem dX12_put_46 : decode cX12_put 46 = .ok (.iadd, 1) := by decide +kernel
theorem dX12_put_47 : decode cX12_put 47 = .ok (.aload_n 0, 1) := by decide +kernel
theorem dX12_put_48 : decode cX12_put 48 = .ok (.getfield 22, 3) := by decide +kernel
theorem dX12_put_51 : decode cX12_put 51 = .ok (.iload_n 1, 1) := by decide +kernel
theorem dX12_put_52 : decode cX12_put 52 = .ok (.iaload, 1) := by decide +kernel
theorem dX12_put_53 : decode cX12_put 53 = .ok (.ifCond .ne 8, 3) := by decide +kernel
theorem dX12_put_56 : decode cX12_put 56 = .ok (.iload_n 3, 1) := by decide +kernel
theorem dX12_put_57 : decode cX12_put 57 = .ok (.i2b, 1) := by decide +kernel
theorem dX12_put_58 : decode cX12_put 58 = .ok (.goto 19, 3) := by decide +kernel
theorem dX12_put_61 : decode cX12_put 61 = .ok (.aload_n 0, 1) := by decide +kernel
theorem dX12_put_62 : decode cX12_put 62 = .ok (.getfield 22, 3) := by decide +kernel
theorem dX12_put_65 : decode cX12_put 65 = .ok (.iload_n 1, 1) := by decide +kernel
theorem dX12_put_66 : decode cX12_put 66 = .ok (.iaload, 1) := by decide +kernel
theorem dX12_put_67 : decode cX12_put 67 = .ok (.iconst 1, 1) := by decide +kernel
theorem dX12_put_68 : decode cX12_put 68 = .ok (.if_icmp .ne 8, 3) := by decide +kernel
theorem dX12_put_71 : decode cX12_put 71 = .ok (.iload_n 3, 1) := by decide +kernel
theorem dX12_put_72 : decode cX12_put 72 = .ok (.i2s, 1) := by decide +kernel
theorem dX12_put_73 : decode cX12_put 73 = .ok (.goto 4, 3) := by decide +kernel
theorem dX12_put_76 : decode cX12_put 76 = .ok (.iload_n 3, 1) := by decide +kernel
theorem dX12_put_77 : decode cX12_put 77 = .ok (.iastore, 1) := by decide +kernel
theorem dX12_put_78 : decode cX12_put 78 = .ok (.iconst 0, 1) := by decide +kernel
theorem dX12_put_79 : decode cX12_put 79 = .ok (.ireturn, 1) := by decide +kernel
set_option maxRecDepth 20000 in
theorem ggX12_element_X12_isShelf : GoodIn wsX12_element wsX12_isShelf := goodIn_r _ [8, 9, 10, 11, 7, 12] (by decide +kernel) (by decide +kernel)
set_option maxRecDepth 20000 in
theorem gX12_element_X12_isShelf : GoodIn wsX12_element (va_wsS RX12 89 yX12_isShelf wsX12_isShelf) := goodIn_app (goodIn_of _ (by decide +kernel)) ggX12_element_X12_isShelf
set_option maxRecDepth 20000 in
theorem ggX12_element_X12_isIn : GoodIn wsX12_element wsX12_isIn := goodIn_r _ [12] (by decide +kernel) (by decide +kernel)
set_option maxRecDepth 20000 in
theorem gX12_element_X12_isIn : GoodIn wsX12_element (va_wsS RX12 50 yX12_isIn wsX12_isIn) := goodIn_app (goodIn_of _ (by decide +kernel)) ggX12_element_X12_isIn
theorem dX12_element_0 : decode cX12_element 0 = .ok (.aload_n 0, 1) := by decide +kernel
theorem dX12_element_1 : decode cX12_element 1 = .ok (.iload_n 1, 1) := by decide +kernel
theorem dX12_element_2 : decode cX12_element 2 = .ok (.invokestatic 89, 3) := by decide +kernel
theorem dX12_element_5 : decode cX12_element 5 = .ok (.ifCond .ne 7, 3) := by decide +kernel
theorem dX12_element_8 : decode cX12_element 8 = .ok (.iconst 1, 1) := by decide +kernel
theorem dX12_element_9 : decode cX12_element 9 = .ok (.goto 36, 3) := by decide +kernel
theorem dX12_element_12 : decode cX12_element 12 = .ok (.aload_n 0, 1) := by decide +kernel
theorem dX12_element_13 : decode cX12_element 13 = .ok (.getfield 19, 3) := by decide +kernel
theorem dX12_element_16 : decode cX12_element 16 = .ok (.iload_n 1, 1) := by decide +kernel
theorem dX12_element_17 : decode cX12_element 17 = .ok (.iaload, 1) := by decide +kernel
theorem dX12_element_18 : decode cX12_element 18 = .ok (.iconst 2, 1) := by decide +kernel
theorem dX12_element_19 : decode cX12_element 19 = .ok (.if_icmp .ne 21, 3) := by decide +kernel
theorem dX12_element_22 : decode cX12_element 22 = .ok (.iload_n 2, 1) := by decide +kernel
theorem dX12_element_23 : decode cX12_element 23 = .ok (.i2l, 1) := by decide +kernel
theorem dX12_element_24 : decode cX12_element 24 = .ok (.lconst 0, 1) := by decide +kernel
theorem dX12_element_25 : decode cX12_element 25 = .ok (.aload_n 0, 1) := by decide +kernel
theorem dX12_element_26 : decode cX12_element 26 = .ok (.getfield 25, 3) := by decide +kernel
theorem dX12_element_29 : decode cX12_element 29 = .ok (.iload_n 1, 1) := by decide +kernel
theorem dX12_element_30 : decode cX12_element 30 = .ok (.iaload, 1) := by decide +kernel
theorem dX12_element_31 : decode cX12_element 31 = .ok (.iconst 1, 1) := by decide +kernel
theorem dX12_element_32 : decode cX12_element 32 = .ok (.isub, 1) := by decide +kernel
theorem dX12_element_33 : decode cX12_element 33 = .ok (.i2l, 1) := by decide +kernel
theorem dX12_element_34 : decode cX12_element 34 = .ok (.invokestatic 50, 3) := by decide +kernel
theorem dX12_element_37 : decode cX12_element 37 = .ok (.ifCond .ne 7, 3) := by decide +kernel
theorem dX12_element_40 : decode cX12_element 40 = .ok (.iconst 2, 1) := by decide +kernel
theorem dX12_element_41 : decode cX12_element 41 = .ok (.goto 4, 3) := by decide +kernel
theorem dX12_element_44 : decode cX12_element 44 = .ok (.iconst 0, 1) := by decide +kernel
theorem dX12_element_45 : decode cX12_element 45 = .ok (.putfield 47, 3) := by decide +kernel
theorem dX12_element_48 : decode cX12_element 48 = .ok (.aload_n 0, 1) := by decide +kernel
theorem dX12_element_49 : decode cX12_element 49 = .ok (.getfield 47, 3) := by decide +kernel
theorem dX12_element_52 : decode cX12_element 52 = .ok (.ifCond .ne 18, 3) := by decide +kernel
theorem dX12_element_55 : decode cX12_element 55 = .ok (.aload_n 0, 1) := by decide +kernel
theorem dX12_element_56 : decode cX12_element 56 = .ok (.getfield 28, 3) := by decide +kernel
theorem dX12_element_59 : decode cX12_element 59 = .ok (.bipush 120, 2) := by decide +kernel
theorem dX12_element_61 : decode cX12_element 61 = .ok (.iload_n 1, 1) := by decide +kernel
theorem dX12_element_62 : decode cX12_element 62 = .ok (.imul, 1) := by decide +kernel
theorem dX12_element_63 : decode cX12_element 63 = .ok (.iload_n 2, 1) := by decide +kernel
theorem dX12_element_64 : decode cX12_element 64 = .ok (.iadd, 1) := by decide +kernel
theorem dX12_element_65 : decode cX12_element 65 = .ok (.iaload, 1) := by decide +kernel
theorem dX12_element_66 : decode cX12_element 66 = .ok (.i2l, 1) := by decide +kernel
theorem dX12_element_67 : decode cX12_element 67 = .ok (.goto 4, 3) := by decide +kernel
theorem dX12_element_70 : decode cX12_element 70 = .ok (.lconst 0, 1) := by decide +kernel
theorem dX12_element_71 : decode cX12_element 71 = .ok (.lreturn, 1) := by decide +kernel
set_option maxRecDepth 20000 in
theorem ggX12_copy_X12_isShelf : GoodIn wsX12_copy wsX12_isShelf := goodIn_r _ [8, 9, 10, 11, 7, 12] (by decide +kernel) (by decide +kernel)
set_option maxRecDepth 20000 in
theorem gX12_copy_X12_isShelf : GoodIn wsX12_copy (va_wsS RX12 89 yX12_isShelf wsX12_isShelf) := goodIn_app (goodIn_of _ (by decide +kernel)) ggX12_copy_X12_isShelf
theorem dX12_copy_0 : decode cX12_copy 0 = .ok (.iload_n 1, 1) := by decide +kernel
theorem dX12_copy_1 : decode cX12_copy 1 = .ok (.invokestatic 89, 3) := by decide +kernel
theorem dX12_copy_4 : decode cX12_copy 4 = .ok (.ifCond .eq 10, 3) := by decide +kernel
theorem dX12_copy_7 : decode cX12_copy 7 = .ok (.iload_n 3, 1) := by decide +kernel
theorem dX12_copy_8 : decode cX12_copy 8 = .ok (.invokestatic 89, 3) := by decide +kernel
theorem dX12_copy_11 : decode cX12_copy 11 = .ok (.ifCond .ne 5, 3) := by decide +kernel
theorem dX12_copy_14 : decode cX12_copy 14 = .ok (.iconst (-1), 1) := by decide +kernel
theorem dX12_copy_15 : decode cX12_copy 15 = .ok (.ireturn, 1) := by decide +kernel
theorem dX12_copy_16 : decode cX12_copy 16 = .ok (.aload_n 0, 1) := by decide +kernel
theorem dX12_copy_17 : decode cX12_copy 17 = .ok (.getfield 19, 3) := by decide +kernel
theorem dX12_copy_20 : decode cX12_copy 20 = .ok (.iload_n 1, 1) := by decide +kernel
theorem dX12_copy_21 : decode cX12_copy 21 = .ok (.iaload, 1) := by decide +kernel
theorem dX12_copy_22 : decode cX12_copy 22 = .ok (.ifCond .eq 12, 3) := by decide +kernel
theorem dX12_copy_25 : decode cX12_copy 25 = .ok (.aload_n 0, 1) := by decide +kernel
theorem dX12_copy_26 : decode cX12_copy 26 = .ok (.getfield 19, 3) := by decide +kernel
theorem dX12_copy_29 : decode cX12_copy 29 = .ok (.iload_n 3, 1) := by decide +kernel
theorem dX12_copy_30 : decode cX12_copy 30 = .ok (.iaload, 1) := by decide +kernel
theorem dX12_copy_31 : decode cX12_copy 31 = .ok (.ifCond .ne 6, 3) := by decide +kernel
theorem dX12_copy_34 : decode cX12_copy 34 = .ok (.bipush (-11), 2) := by decide +kernel
theorem dX12_copy_36 : decode cX12_copy 36 = .ok (.ireturn, 1) := by decide +kernel
theorem dX12_copy_37 : decode cX12_copy 37 = .ok (.aload_n 0, 1) := by decide +kernel
theorem dX12_copy_38 : decode cX12_copy 38 = .ok (.getfield 19, 3) := by decide +kernel
theorem dX12_copy_41 : decode cX12_copy 41 = .ok (.iload_n 1, 1) := by decide +kernel
theorem dX12_copy_42 : decode cX12_copy 42 = .ok (.iaload, 1) := by decide +kernel
theorem dX12_copy_43 : decode cX12_copy 43 = .ok (.iconst 2, 1) := by decide +kernel
theorem dX12_copy_44 : decode cX12_copy 44 = .ok (.if_icmp .ne 28, 3) := by decide +kernel
theorem dX12_copy_47 : decode cX12_copy 47 = .ok (.aload_n 0, 1) := by decide +kernel
theorem dX12_copy_48 : decode cX12_copy 48 = .ok (.getfield 19, 3) := by decide +kernel
theorem dX12_copy_51 : decode cX12_copy 51 = .ok (.iload_n 3, 1) := by decide +kernel
theorem dX12_copy_52 : decode cX12_copy 52 = .ok (.iaload, 1) := by decide +kernel
theorem dX12_copy_53 : decode cX12_copy 53 = .ok (.iconst 2, 1) := by decide +kernel
theorem dX12_copy_54 : decode cX12_copy 54 = .ok (.if_icmp .ne 18, 3) := by decide +kernel
theorem dX12_copy_57 : decode cX12_copy 57 = .ok (.aload_n 0, 1) := by decide +kernel
theorem dX12_copy_58 : decode cX12_copy 58 = .ok (.getfield 22, 3) := by decide +kernel
theorem dX12_copy_61 : decode cX12_copy 61 = .ok (.iload_n 1, 1) := by decide +kernel
theorem dX12_copy_62 : decode cX12_copy 62 = .ok (.iaload, 1) := by decide +kernel
theorem dX12_copy_63 : decode cX12_copy 63 = .ok (.aload_n 0, 1) := by decide +kernel
theorem dX12_copy_64 : decode cX12_copy 64 = .ok (.getfield 22, 3) := by decide +kernel
theorem dX12_copy_67 : decode cX12_copy 67 = .ok (.iload_n 3, 1) := by decide +kernel
theorem dX12_copy_68 : decode cX12_copy 68 = .ok (.iaload, 1) := by decide +kernel
theorem dX12_copy_69 : decode cX12_copy 69 = .ok (.if_icmp .eq 6, 3) := by decide +kernel
theorem dX12_copy_72 : decode cX12_copy 72 = .ok (.bipush (-12), 2) := by decide +kernel
theorem dX12_copy_74 : decode cX12_copy 74 = .ok (.ireturn, 1) := by decide +kernel
theorem dX12_copy_75 : decode cX12_copy 75 = .ok (.iload 5, 2) := by decide +kernel
theorem dX12_copy_77 : decode cX12_copy 77 = .ok (.ifCond .lt 39, 3) := by decide +kernel
theorem dX12_copy_80 : decode cX12_copy 80 = .ok (.iload_n 2, 1) := by decide +kernel
theorem dX12_copy_81 : decode cX12_copy 81 = .ok (.ifCond .lt 35, 3) := by decide +kernel
theorem dX12_copy_84 : decode cX12_copy 84 = .ok (.iload 4, 2) := by decide +kernel
theorem dX12_copy_86 : decode cX12_copy 86 = .ok (.ifCond .lt 30, 3) := by decide +kernel
theorem dX12_copy_89 : decode cX12_copy 89 = .ok (.iload 5, 2) := by decide +kernel
theorem dX12_copy_91 : decode cX12_copy 91 = .ok (.aload_n 0, 1) := by decide +kernel
theorem dX12_copy_92 : decode cX12_copy 92 = .ok (.getfield 25, 3) := by decide +kernel
theorem dX12_copy_95 : decode cX12_copy 95 = .ok (.iload_n 1, 1) := by decide +kernel
theorem dX12_copy_96 : decode cX12_copy 96 = .ok (.iaload, 1) := by decide +kernel
theorem dX12_copy_97 : decode cX12_copy 97 = .ok (.iload_n 2, 1) := by decide +kernel
theorem dX12_copy_98 : decode cX12_copy 98 = .ok (.isub, 1) := by decide +kernel
theorem dX12_copy_99 : decode cX12_copy 99 = .ok (.if_icmp .gt 17, 3) := by decide +kernel
theorem dX12_copy_102 : decode cX12_copy 102 = .ok (.iload 5, 2) := by decide +kernel
theorem dX12_copy_104 : decode cX12_copy 104 = .ok (.aload_n 0, 1) := by decide +kernel
theorem dX12_copy_105 : decode cX12_copy 105 = .ok (.getfield 25, 3) := by decide +kernel
theorem dX12_copy_108 : decode cX12_copy 108 = .ok (.iload_n 3, 1) := by decide +kernel
theorem dX12_copy_109 : decode cX12_copy 109 = .ok (.iaload, 1) := by decide +kernel
theorem dX12_copy_110 : decode cX12_copy 110 = .ok (.iload 4, 2) := by decide +kernel
theorem dX12_copy_112 : decode cX12_copy 112 = .ok (.isub, 1) := by decide +kernel
theorem dX12_copy_113 : decode cX12_copy 113 = .ok (.if_icmp .le 6, 3) := by decide +kernel
theorem dX12_copy_116 : decode cX12_copy 116 = .ok (.bipush (-13), 2) := by decide +kernel
theorem dX12_copy_118 : decode cX12_copy 118 = .ok (.ireturn, 1) := by decide +kernel
theorem dX12_copy_119 : decode cX12_copy 119 = .ok (.iconst 0, 1) := by decide +kernel
theorem dX12_copy_120 : decode cX12_copy 120 = .ok (.istore 6, 2) := by decide +kernel
theorem dX12_copy_122 : decode cX12_copy 122 = .ok (.iload 6, 2) := by decide +kernel
theorem dX12_copy_124 : decode cX12_copy 124 = .ok (.iload 5, 2) := by decide +kernel
theorem dX12_copy_126 : decode cX12_copy 126 = .ok (.if_icmp .ge 58, 3) := by decide +kernel
theorem dX12_copy_129 : decode cX12_copy 129 = .ok (.iload_n 2, 1) := by decide +kernel
theorem dX12_copy_130 : decode cX12_copy 130 = .ok (.iload 4, 2) := by decide +kernel
theorem dX12_copy_132 : decode cX12_copy 132 = .ok (.if_icmp .le 8, 3) := by decide +kernel
theorem dX12_copy_135 : decode cX12_copy 135 = .ok (.iload 6, 2) := by decide +kernel
theorem dX12_copy_137 : decode cX12_copy 137 = .ok (.goto 10, 3) := by decide +kernel
theorem dX12_copy_140 : decode cX12_copy 140 = .ok (.iload 5, 2) := by decide +kernel
theorem dX12_copy_142 : decode cX12_copy 142 = .ok (.iconst 1, 1) := by decide +kernel
theorem dX12_copy_143 : decode cX12_copy 143 = .ok (.isub, 1) := by decide +kernel
theorem dX12_copy_144 : decode cX12_copy 144 = .ok (.iload 6, 2) := by decide +kernel
theorem dX12_copy_146 : decode cX12_copy 146 = .ok (.isub, 1) := by decide +kernel
theorem dX12_copy_147 : decode cX12_copy 147 = .ok (.istore 7, 2) := by decide +kernel
theorem dX12_copy_149 : decode cX12_copy 149 = .ok (.aload_n 0, 1) := by decide +kernel
theorem dX12_copy_150 : decode cX12_copy 150 = .ok (.getfield 28, 3) := by decide +kernel
theorem dX12_copy_153 : decode cX12_copy 153 = .ok (.bipush 120, 2) := by decide +kernel
theorem dX12_copy_155 : decode cX12_copy 155 = .ok (.iload_n 3, 1) := by decide +kernel
theorem dX12_copy_156 : decode cX12_copy 156 = .ok (.imul, 1) := by decide +kernel
theorem dX12_copy_157 : decode cX12_copy 157 = .ok (.iload 4, 2) := by decide +kernel
theorem dX12_copy_159 : decode cX12_copy 159 = .ok (.iadd, 1) := by decide +kernel
theorem dX12_copy_160 : decode cX12_copy 160 = .ok (.iload 7, 2) := by decide +kernel
theorem dX12_copy_162 : decode cX12_copy 162 = .ok (.iadd, 1) := by decide +kernel
theorem dX12_copy_163 : decode cX12_copy 163 = .ok (.aload_n 0, 1) := by decide +kernel
theorem dX12_copy_164 : decode cX12_copy 164 = .ok (.getfield 28, 3) := by decide +kernel
theorem dX12_copy_167 : decode cX12_copy 167 = .ok (.bipush 120, 2) := by decide +kernel
theorem dX12_copy_169 : decode cX12_copy 169 = .ok (.iload_n 1, 1) := by decide +kernel
theorem dX12_copy_170 : decode cX12_copy 170 = .ok (.imul, 1) := by decide +kernel
theorem dX12_copy_171 : decode cX12_copy 171 = .ok (.iload_n 2, 1) := by decide +kernel
theorem dX12_copy_172 : decode cX12_copy 172 = .ok (.iadd, 1) := by decide +kernel
theorem dX12_copy_173 : decode cX12_copy 173 = .ok (.iload 7, 2) := by decide +kernel
theorem dX12_copy_175 : decode cX12_copy 175 = .ok (.iadd, 1) := by decide +kernel
theorem dX12_copy_176 : decode cX12_copy 176 = .ok (.iaload, 1) := by decide +kernel
theorem dX12_copy_177 : decode cX12_copy 177 = .ok (.iastore, 1) := by decide +kernel
theorem dX12_copy_178 : decode cX12_copy 178 = .ok (.iinc 6 1, 3) := by decide +kernel
theorem dX12_copy_181 : decode cX12_copy 181 = .ok (.goto (-59), 3) := by decide +kernel
theorem dX12_copy_184 : decode cX12_copy 184 = .ok (.iload 5, 2) := by decide +kernel
theorem dX12_copy_186 : decode cX12_copy 186 = .ok (.ireturn, 1) := by decide +kernel
set_option maxRecDepth 20000 in
theorem ggX12_wrongKept_X12_isShelf : GoodIn wsX12_wrongKept wsX12_isShelf := goodIn_r _ [5, 6, 7, 8, 4, 9] (by decide +kernel) (by decide +kernel)
set_option maxRecDepth 20000 in
theorem gX12_wrongKept_X12_isShelf : GoodIn wsX12_wrongKept (va_wsS RX12 89 yX12_isShelf wsX12_isShelf) := goodIn_app (goodIn_of _ (by decide +kernel)) ggX12_wrongKept_X12_isShelf
theorem dX12_wrongKept_0 : decode cX12_wrongKept 0 = .ok (.iload_n 1, 1) := by decide +kernel
theorem dX12_wrongKept_1 : decode cX12_wrongKept 1 = .ok (.invokestatic 89, 3) := by decide +kernel
theorem dX12_wrongKept_4 : decode cX12_wrongKept 4 = .ok (.ifCond .ne 7, 3) := by decide +kernel
theorem dX12_wrongKept_7 : decode cX12_wrongKept 7 = .ok (.iconst (-1), 1) := by decide +kernel
theorem dX12_wrongKept_8 : decode cX12_wrongKept 8 = .ok (.goto 33, 3) := by decide +kernel
theorem dX12_wrongKept_11 : decode cX12_wrongKept 11 = .ok (.aload_n 0, 1) := by decide +kernel
theorem dX12_wrongKept_12 : decode cX12_wrongKept 12 = .ok (.getfield 19, 3) := by decide +kernel
theorem dX12_wrongKept_15 : decode cX12_wrongKept 15 = .ok (.iload_n 1, 1) := by decide +kernel
theorem dX12_wrongKept_16 : decode cX12_wrongKept 16 = .ok (.iaload, 1) := by decide +kernel
theorem dX12_wrongKept_17 : decode cX12_wrongKept 17 = .ok (.ifCond .ne 8, 3) := by decide +kernel
theorem dX12_wrongKept_20 : decode cX12_wrongKept 20 = .ok (.bipush (-11), 2) := by decide +kernel
theorem dX12_wrongKept_22 : decode cX12_wrongKept 22 = .ok (.goto 19, 3) := by decide +kernel
theorem dX12_wrongKept_25 : decode cX12_wrongKept 25 = .ok (.aload_n 0, 1) := by decide +kernel
theorem dX12_wrongKept_26 : decode cX12_wrongKept 26 = .ok (.getfield 19, 3) := by decide +kernel
theorem dX12_wrongKept_29 : decode cX12_wrongKept 29 = .ok (.iload_n 1, 1) := by decide +kernel
theorem dX12_wrongKept_30 : decode cX12_wrongKept 30 = .ok (.iaload, 1) := by decide +kernel
theorem dX12_wrongKept_31 : decode cX12_wrongKept 31 = .ok (.iconst 1, 1) := by decide +kernel
theorem dX12_wrongKept_32 : decode cX12_wrongKept 32 = .ok (.if_icmp .ne 7, 3) := by decide +kernel
theorem dX12_wrongKept_35 : decode cX12_wrongKept 35 = .ok (.iconst 0, 1) := by decide +kernel
theorem dX12_wrongKept_36 : decode cX12_wrongKept 36 = .ok (.goto 5, 3) := by decide +kernel
theorem dX12_wrongKept_39 : decode cX12_wrongKept 39 = .ok (.bipush (-12), 2) := by decide +kernel
theorem dX12_wrongKept_41 : decode cX12_wrongKept 41 = .ok (.ireturn, 1) := by decide +kernel
set_option maxRecDepth 20000 in
theorem ggX12_breadth_X12_wrongKept : GoodIn wsX12_breadth wsX12_wrongKept := goodIn_r _ [6, 7, 8, 9, 5, 10, 11, 12, 13, 14, 15, 16, 17, 18, 19, 20, 21, 22, 23, 24, 25, 26, 27, 28, 29, 30, 31, 32, 33, 34, 35, 36, 37, 38] (by decide +kernel) (by decide +kernel)
set_option maxRecDepth 20000 in
theorem gX12_breadth_X12_wrongKept : GoodIn wsX12_breadth (wsV RX12 236 RX12 yX12_wrongKept wsX12_wrongKept) := goodIn_app (goodIn_of _ (by decide +kernel)) ggX12_breadth_X12_wrongKept
theorem dX12_breadth_0 : decode cX12_breadth 0 = .ok (.aload_n 0, 1) := by decide +kernel
theorem dX12_breadth_1 : decode cX12_breadth 1 = .ok (.iload_n 1, 1) := by decide +kernel
theorem dX12_breadth_2 : decode cX12_breadth 2 = .ok (.invokevirtual 236, 3) := by decide +kernel
theorem dX12_breadth_5 : decode cX12_breadth 5 = .ok (.istore_n 2, 1) := by decide +kernel
theorem dX12_breadth_6 : decode cX12_breadth 6 = .ok (.iload_n 2, 1) := by decide +kernel
theorem dX12_breadth_7 : decode cX12_breadth 7 = .ok (.ifCond .eq 7, 3) := by decide +kernel
theorem dX12_breadth_10 : decode cX12_breadth 10 = .ok (.iload_n 2, 1) := by decide +kernel
theorem dX12_breadth_11 : decode cX12_breadth 11 = .ok (.goto 9, 3) := by decide +kernel
theorem dX12_breadth_14 : decode cX12_breadth 14 = .ok (.aload_n 0, 1) := by decide +kernel
theorem dX12_breadth_15 : decode cX12_breadth 15 = .ok (.getfield 31, 3) := by decide +kernel
theorem dX12_breadth_18 : decode cX12_breadth 18 = .ok (.iload_n 1, 1) := by decide +kernel
theorem dX12_breadth_19 : decode cX12_breadth 19 = .ok (.iaload, 1) := by decide +kernel
theorem dX12_breadth_20 : decode cX12_breadth 20 = .ok (.ireturn, 1) := by decide +kernel
set_option maxRecDepth 20000 in
theorem ggX12_toss_X12_wrongKept : GoodIn wsX12_toss wsX12_wrongKept := goodIn_r _ [6, 7, 8, 9, 5, 10, 11, 12, 13, 14, 15, 16, 17, 18, 19, 20, 21, 22, 23, 24, 25, 26, 27, 28, 29, 30, 31, 32, 33, 34, 35, 36, 37, 38] (by decide +kernel) (by decide +kernel)
set_option maxRecDepth 20000 in
theorem gX12_toss_X12_wrongKept : GoodIn wsX12_toss (wsV RX12 236 RX12 yX12_wrongKept wsX12_wrongKept) := goodIn_app (goodIn_of _ (by decide +kernel)) ggX12_toss_X12_wrongKept
theorem dX12_toss_0 : decode cX12_toss 0 = .ok (.aload_n 0, 1) := by decide +kernel
theorem dX12_toss_1 : decode cX12_toss 1 = .ok (.iload_n 1, 1) := by decide +kernel
theorem dX12_toss_2 : decode cX12_toss 2 = .ok (.invokevirtual 236, 3) := by decide +kernel
theorem dX12_toss_5 : decode cX12_toss 5 = .ok (.istore_n 2, 1) := by decide +kernel
theorem dX12_toss_6 : decode cX12_toss 6 = .ok (.iload_n 2, 1) := by decide +kernel
theorem dX12_toss_7 : decode cX12_toss 7 = .ok (.ifCond .eq 7, 3) := by decide +kernel
theorem dX12_toss_10 : decode cX12_toss 10 = .ok (.iload_n 2, 1) := by decide +kernel
theorem dX12_toss_11 : decode cX12_toss 11 = .ok (.goto 9, 3) := by decide +kernel
theorem dX12_toss_14 : decode cX12_toss 14 = .ok (.aload_n 0, 1) := by decide +kernel
theorem dX12_toss_15 : decode cX12_toss 15 = .ok (.getfield 34, 3) := by decide +kernel
theorem dX12_toss_18 : decode cX12_toss 18 = .ok (.iload_n 1, 1) := by decide +kernel
theorem dX12_toss_19 : decode cX12_toss 19 = .ok (.iaload, 1) := by decide +kernel
theorem dX12_toss_20 : decode cX12_toss 20 = .ok (.ireturn, 1) := by decide +kernel
theorem dJ6_bitCount_0f7a4_0 : decode cJ6_bitCount_0f7a4 0 = .ok (.iload_n 0, 1) := by decide +kernel
theorem dJ6_bitCount_0f7a4_1 : decode cJ6_bitCount_0f7a4 1 = .ok (.iload_n 0, 1) := by decide +kernel
theorem dJ6_bitCount_0f7a4_2 : decode cJ6_bitCount_0f7a4 2 = .ok (.iconst 1, 1) := by decide +kernel
theorem dJ6_bitCount_0f7a4_3 : decode cJ6_bitCount_0f7a4 3 = .ok (.iushr, 1) := by decide +kernel
theorem dJ6_bitCount_0f7a4_4 : decode cJ6_bitCount_0f7a4 4 = .ok (.ldc_w 265, 3) := by decide +kernel
theorem dJ6_bitCount_0f7a4_7 : decode cJ6_bitCount_0f7a4 7 = .ok (.iand, 1) := by decide +kernel
theorem dJ6_bitCount_0f7a4_8 : decode cJ6_bitCount_0f7a4 8 = .ok (.isub, 1) := by decide +kernel
theorem dJ6_bitCount_0f7a4_9 : decode cJ6_bitCount_0f7a4 9 = .ok (.istore_n 0, 1) := by decide +kernel
theorem dJ6_bitCount_0f7a4_10 : decode cJ6_bitCount_0f7a4 10 = .ok (.iload_n 0, 1) := by decide +kernel
theorem dJ6_bitCount_0f7a4_11 : decode cJ6_bitCount_0f7a4 11 = .ok (.ldc_w 266, 3) := by decide +kernel
theorem dJ6_bitCount_0f7a4_14 : decode cJ6_bitCount_0f7a4 14 = .ok (.iand, 1) := by decide +kernel
theorem dJ6_bitCount_0f7a4_15 : decode cJ6_bitCount_0f7a4 15 = .ok (.iload_n 0, 1) := by decide +kernel
theorem dJ6_bitCount_0f7a4_16 : decode cJ6_bitCount_0f7a4 16 = .ok (.iconst 2, 1) := by decide +kernel
theorem dJ6_bitCount_0f7a4_17 : decode cJ6_bitCount_0f7a4 17 = .ok (.iushr, 1) := by decide +kernel
theorem dJ6_bitCount_0f7a4_18 : decode cJ6_bitCount_0f7a4 18 = .ok (.ldc_w 266, 3) := by decide +kernel
theorem dJ6_bitCount_0f7a4_21 : decode cJ6_bitCount_0f7a4 21 = .ok (.iand, 1) := by decide +kernel
theorem dJ6_bitCount_0f7a4_22 : decode cJ6_bitCount_0f7a4 22 = .ok (.iadd, 1) := by decide +kernel
theorem dJ6_bitCount_0f7a4_23 : decode cJ6_bitCount_0f7a4 23 = .ok (.istore_n 0, 1) := by decide +kernel
theorem dJ6_bitCount_0f7a4_24 : decode cJ6_bitCount_0f7a4 24 = .ok (.iload_n 0, 1) := by decide +kernel
theorem dJ6_bitCount_0f7a4_25 : decode cJ6_bitCount_0f7a4 25 = .ok (.iload_n 0, 1) := by decide +kernel
theorem dJ6_bitCount_0f7a4_26 : decode cJ6_bitCount_0f7a4 26 = .ok (.iconst 4, 1) := by decide +kernel
theorem dJ6_bitCount_0f7a4_27 : decode cJ6_bitCount_0f7a4 27 = .ok (.iushr, 1) := by decide +kernel
theorem dJ6_bitCount_0f7a4_28 : decode cJ6_bitCount_0f7a4 28 = .ok (.iadd, 1) := by decide +kernel
theorem dJ6_bitCount_0f7a4_29 : decode cJ6_bitCount_0f7a4 29 = .ok (.ldc_w 267, 3) := by decide +kernel
theorem dJ6_bitCount_0f7a4_32 : decode cJ6_bitCount_0f7a4 32 = .ok (.iand, 1) := by decide +kernel
theorem dJ6_bitCount_0f7a4_33 : decode cJ6_bitCount_0f7a4 33 = .ok (.istore_n 0, 1) := by decide +kernel
theorem dJ6_bitCount_0f7a4_34 : decode cJ6_bitCount_0f7a4 34 = .ok (.iload_n 0, 1) := by decide +kernel
theorem dJ6_bitCount_0f7a4_35 : decode cJ6_bitCount_0f7a4 35 = .ok (.iload_n 0, 1) := by decide +kernel
theorem dJ6_bitCount_0f7a4_36 : decode cJ6_bitCount_0f7a4 36 = .ok (.bipush 8, 2) := by decide +kernel
theorem dJ6_bitCount_0f7a4_38 : decode cJ6_bitCount_0f7a4 38 = .ok (.iushr, 1) := by decide +kernel
theorem dJ6_bitCount_0f7a4_39 : decode cJ6_bitCount_0f7a4 39 = .ok (.iadd, 1) := by decide +kernel
theorem dJ6_bitCount_0f7a4_40 : decode cJ6_bitCount_0f7a4 40 = .ok (.istore_n 0, 1) := by decide +kernel
theorem dJ6_bitCount_0f7a4_41 : decode cJ6_bitCount_0f7a4 41 = .ok (.iload_n 0, 1) := by decide +kernel
theorem dJ6_bitCount_0f7a4_42 : decode cJ6_bitCount_0f7a4 42 = .ok (.iload_n 0, 1) := by decide +kernel
theorem dJ6_bitCount_0f7a4_43 : decode cJ6_bitCount_0f7a4 43 = .ok (.bipush 16, 2) := by decide +kernel
theorem dJ6_bitCount_0f7a4_45 : decode cJ6_bitCount_0f7a4 45 = .ok (.iushr, 1) := by decide +kernel
theorem dJ6_bitCount_0f7a4_46 : decode cJ6_bitCount_0f7a4 46 = .ok (.iadd, 1) := by decide +kernel
theorem dJ6_bitCount_0f7a4_47 : decode cJ6_bitCount_0f7a4 47 = .ok (.istore_n 0, 1) := by decide +kernel
theorem dJ6_bitCount_0f7a4_48 : decode cJ6_bitCount_0f7a4 48 = .ok (.iload_n 0, 1) := by decide +kernel
theorem dJ6_bitCount_0f7a4_49 : decode cJ6_bitCount_0f7a4 49 = .ok (.bipush 63, 2) := by decide +kernel
theorem dJ6_bitCount_0f7a4_51 : decode cJ6_bitCount_0f7a4 51 = .ok (.iand, 1) := by decide +kernel
theorem dJ6_bitCount_0f7a4_52 : decode cJ6_bitCount_0f7a4 52 = .ok (.ireturn, 1) := by decide +kernel
theorem dJ9_abs_067f4_0 : decode cJ9_abs_067f4 0 = .ok (.lload_n 0, 1) := by decide +kernel
theorem dJ9_abs_067f4_1 : decode cJ9_abs_067f4 1 = .ok (.lconst 0, 1) := by decide +kernel
theorem dJ9_abs_067f4_2 : decode cJ9_abs_067f4 2 = .ok (.lcmp, 1) := by decide +kernel
theorem dJ9_abs_067f4_3 : decode cJ9_abs_067f4 3 = .ok (.ifCond .ge 8, 3) := by decide +kernel
theorem dJ9_abs_067f4_6 : decode cJ9_abs_067f4 6 = .ok (.lload_n 0, 1) := by decide +kernel
theorem dJ9_abs_067f4_7 : decode cJ9_abs_067f4 7 = .ok (.lneg, 1) := by decide +kernel
theorem dJ9_abs_067f4_8 : decode cJ9_abs_067f4 8 = .ok (.goto 4, 3) := by decide +kernel
theorem dJ9_abs_067f4_11 : decode cJ9_abs_067f4 11 = .ok (.lload_n 0, 1) := by decide +kernel
theorem dJ9_abs_067f4_12 : decode cJ9_abs_067f4 12 = .ok (.lreturn, 1) := by decide +kernel
theorem dJ9_max_7cf53_0 : decode cJ9_max_7cf53 0 = .ok (.iload_n 0, 1) := by decide +kernel
theorem dJ9_max_7cf53_1 : decode cJ9_max_7cf53 1 = .ok (.iload_n 1, 1) := by decide +kernel
theorem dJ9_max_7cf53_2 : decode cJ9_max_7cf53 2 = .ok (.if_icmp .lt 7, 3) := by decide +kernel
theorem dJ9_max_7cf53_5 : decode cJ9_max_7cf53 5 = .ok (.iload_n 0, 1) := by decide +kernel
theorem dJ9_max_7cf53_6 : decode cJ9_max_7cf53 6 = .ok (.goto 4, 3) := by decide +kernel
theorem dJ9_max_7cf53_9 : decode cJ9_max_7cf53 9 = .ok (.iload_n 1, 1) := by decide +kernel
theorem dJ9_max_7cf53_10 : decode cJ9_max_7cf53 10 = .ok (.ireturn, 1) := by decide +kernel
theorem dJ9_max_f86c9_0 : decode cJ9_max_f86c9 0 = .ok (.lload_n 0, 1) := by decide +kernel
theorem dJ9_max_f86c9_1 : decode cJ9_max_f86c9 1 = .ok (.lload_n 2, 1) := by decide +kernel
theorem dJ9_max_f86c9_2 : decode cJ9_max_f86c9 2 = .ok (.lcmp, 1) := by decide +kernel
theorem dJ9_max_f86c9_3 : decode cJ9_max_f86c9 3 = .ok (.ifCond .lt 7, 3) := by decide +kernel
theorem dJ9_max_f86c9_6 : decode cJ9_max_f86c9 6 = .ok (.lload_n 0, 1) := by decide +kernel
theorem dJ9_max_f86c9_7 : decode cJ9_max_f86c9 7 = .ok (.goto 4, 3) := by decide +kernel
theorem dJ9_max_f86c9_10 : decode cJ9_max_f86c9 10 = .ok (.lload_n 2, 1) := by decide +kernel
theorem dJ9_max_f86c9_11 : decode cJ9_max_f86c9 11 = .ok (.lreturn, 1) := by decide +kernel
theorem dJ9_min_7cf53_0 : decode cJ9_min_7cf53 0 = .ok (.iload_n 0, 1) := by decide +kernel
theorem dJ9_min_7cf53_1 : decode cJ9_min_7cf53 1 = .ok (.iload_n 1, 1) := by decide +kernel
theorem dJ9_min_7cf53_2 : decode cJ9_min_7cf53 2 = .ok (.if_icmp .gt 7, 3) := by decide +kernel
theorem dJ9_min_7cf53_5 : decode cJ9_min_7cf53 5 = .ok (.iload_n 0, 1) := by decide +kernel
theorem dJ9_min_7cf53_6 : decode cJ9_min_7cf53 6 = .ok (.goto 4, 3) := by decide +kernel
theorem dJ9_min_7cf53_9 : decode cJ9_min_7cf53 9 = .ok (.iload_n 1, 1) := by decide +kernel
theorem dJ9_min_7cf53_10 : decode cJ9_min_7cf53 10 = .ok (.ireturn, 1) := by decide +kernel
theorem dJ7_fill_53178_0 : decode cJ7_fill_53178 0 = .ok (.iconst 0, 1) := by decide +kernel
theorem dJ7_fill_53178_1 : decode cJ7_fill_53178 1 = .ok (.istore_n 2, 1) := by decide +kernel
theorem dJ7_fill_53178_2 : decode cJ7_fill_53178 2 = .ok (.aload_n 0, 1) := by decide +kernel
theorem dJ7_fill_53178_3 : decode cJ7_fill_53178 3 = .ok (.arraylength, 1) := by decide +kernel
theorem dJ7_fill_53178_4 : decode cJ7_fill_53178 4 = .ok (.istore_n 3, 1) := by decide +kernel
theorem dJ7_fill_53178_5 : decode cJ7_fill_53178 5 = .ok (.iload_n 2, 1) := by decide +kernel
theorem dJ7_fill_53178_6 : decode cJ7_fill_53178 6 = .ok (.iload_n 3, 1) := by decide +kernel
theorem dJ7_fill_53178_7 : decode cJ7_fill_53178 7 = .ok (.if_icmp .ge 13, 3) := by decide +kernel
theorem dJ7_fill_53178_10 : decode cJ7_fill_53178 10 = .ok (.aload_n 0, 1) := by decide +kernel
theorem dJ7_fill_53178_11 : decode cJ7_fill_53178 11 = .ok (.iload_n 2, 1) := by decide +kernel
theorem dJ7_fill_53178_12 : decode cJ7_fill_53178 12 = .ok (.iload_n 1, 1) := by decide +kernel
theorem dJ7_fill_53178_13 : decode cJ7_fill_53178 13 = .ok (.iastore, 1) := by decide +kernel
theorem dJ7_fill_53178_14 : decode cJ7_fill_53178 14 = .ok (.iinc 2 1, 3) := by decide +kernel
theorem dJ7_fill_53178_17 : decode cJ7_fill_53178 17 = .ok (.goto (-12), 3) := by decide +kernel
theorem dJ7_fill_53178_20 : decode cJ7_fill_53178 20 = .ok (.return_, 1) := by decide +kernel

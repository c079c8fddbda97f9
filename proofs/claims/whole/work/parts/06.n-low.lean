set_option maxRecDepth 20000 in
theorem ggX0_init_X2_init : GoodIn wsX0_init wsX2_init := goodIn_r _ [4, 5, 6, 7, 8, 9, 10, 11, 12, 13, 14, 15, 16, 17, 18, 19, 20, 21, 22, 23, 24, 25, 26, 27, 28, 29, 30, 31, 32, 33, 34, 35, 36, 37, 38, 39, 40, 41, 42] (by decide +kernel) (by decide +kernel)
set_option maxRecDepth 20000 in
theorem gX0_init_X2_init : GoodIn wsX0_init (wsX2_init) := ggX0_init_X2_init
theorem dX0_init_0 : decode cX0_init 0 = .ok (.aload_n 0, 1) := by decide +kernel
theorem dX0_init_1 : decode cX0_init 1 = .ok (.iload_n 1, 1) := by decide +kernel
theorem dX0_init_2 : decode cX0_init 2 = .ok (.iload_n 2, 1) := by decide +kernel
theorem dX0_init_3 : decode cX0_init 3 = .ok (.invokespecial 1, 3) := by decide +kernel
theorem dX0_init_6 : decode cX0_init 6 = .ok (.return_, 1) := by decide +kernel
set_option maxRecDepth 20000 in
theorem ggX0_broad_X2_broad : GoodIn wsX0_broad wsX2_broad := goodIn_r _ [6, 7, 8, 9, 10, 11, 12, 13, 14, 15, 16, 17, 18, 19, 20, 21, 22, 23, 24, 25, 26, 27, 28, 29, 30, 31] (by decide +kernel) (by decide +kernel)
set_option maxRecDepth 20000 in
theorem gX0_broad_X2_broad_s7 : GoodIn wsX0_broad (va_wsSU RX0 7 yX2_broad wsX2_broad) := goodIn_app (goodIn_of _ (by decide +kernel)) ggX0_broad_X2_broad
theorem dX0_broad_0 : decode cX0_broad 0 = .ok (.iconst 2, 1) := by decide +kernel
theorem dX0_broad_1 : decode cX0_broad 1 = .ok (.aload_n 0, 1) := by decide +kernel
theorem dX0_broad_2 : decode cX0_broad 2 = .ok (.invokespecial 7, 3) := by decide +kernel
theorem dX0_broad_5 : decode cX0_broad 5 = .ok (.imul, 1) := by decide +kernel
theorem dX0_broad_6 : decode cX0_broad 6 = .ok (.ireturn, 1) := by decide +kernel
set_option maxRecDepth 20000 in
theorem ggX1_init_X9_init : GoodIn wsX1_init wsX9_init := goodIn_r _ [4, 5, 6, 7, 8, 9, 10, 11, 12, 13, 14, 15, 16, 17, 18, 19, 20, 21, 22, 23, 24, 25, 26, 27, 28, 29, 30, 31, 32, 33, 34, 35, 36, 37, 38, 39, 40, 41, 42, 43, 44, 45, 46] (by decide +kernel) (by decide +kernel)
set_option maxRecDepth 20000 in
theorem gX1_init_X9_init : GoodIn wsX1_init (wsX9_init) := ggX1_init_X9_init
theorem dX1_init_0 : decode cX1_init 0 = .ok (.aload_n 0, 1) := by decide +kernel
theorem dX1_init_1 : decode cX1_init 1 = .ok (.iload_n 1, 1) := by decide +kernel
theorem dX1_init_2 : decode cX1_init 2 = .ok (.iload_n 2, 1) := by decide +kernel
theorem dX1_init_3 : decode cX1_init 3 = .ok (.invokespecial 1, 3) := by decide +kernel
theorem dX1_init_6 : decode cX1_init 6 = .ok (.return_, 1) := by decide +kernel
set_option maxRecDepth 20000 in
theorem ggX1_broad_X9_broad : GoodIn wsX1_broad wsX9_broad := goodIn_r _ [6, 7, 8, 9, 10, 11, 12, 13, 14, 15, 16, 17, 18, 19, 20, 21, 22, 23, 24, 25, 26, 27, 28, 29, 30, 31, 32, 33, 34, 35, 36, 37] (by decide +kernel) (by decide +kernel)
set_option maxRecDepth 20000 in
theorem gX1_broad_X9_broad_s7 : GoodIn wsX1_broad (va_wsSU RX1 7 yX9_broad wsX9_broad) := goodIn_app (goodIn_of _ (by decide +kernel)) ggX1_broad_X9_broad
theorem dX1_broad_0 : decode cX1_broad 0 = .ok (.iconst 2, 1) := by decide +kernel
theorem dX1_broad_1 : decode cX1_broad 1 = .ok (.aload_n 0, 1) := by decide +kernel
theorem dX1_broad_2 : decode cX1_broad 2 = .ok (.invokespecial 7, 3) := by decide +kernel
theorem dX1_broad_5 : decode cX1_broad 5 = .ok (.imul, 1) := by decide +kernel
theorem dX1_broad_6 : decode cX1_broad 6 = .ok (.ireturn, 1) := by decide +kernel
theorem dX1_failure_0 : decode cX1_failure 0 = .ok (.aload_n 0, 1) := by decide +kernel
theorem dX1_failure_1 : decode cX1_failure 1 = .ok (.getfield 11, 3) := by decide +kernel
theorem dX1_failure_4 : decode cX1_failure 4 = .ok (.ireturn, 1) := by decide +kernel
set_option maxRecDepth 20000 in
theorem ggX2_init_J6_bitCount_0f7a4 : GoodIn wsX2_init wsJ6_bitCount_0f7a4 := goodIn_r _ [11, 12, 13, 14] (by decide +kernel) (by decide +kernel)
set_option maxRecDepth 20000 in
theorem gX2_init_J6_bitCount_0f7a4 : GoodIn wsX2_init (va_wsS RX2 18 yJ6_bitCount_0f7a4 wsJ6_bitCount_0f7a4) := goodIn_app (goodIn_of _ (by decide +kernel)) ggX2_init_J6_bitCount_0f7a4
theorem dX2_init_0 : decode cX2_init 0 = .ok (.aload_n 0, 1) := by decide +kernel
theorem dX2_init_1 : decode cX2_init 1 = .ok (.invokespecial 3, 3) := by decide +kernel
theorem dX2_init_4 : decode cX2_init 4 = .ok (.iload_n 1, 1) := by decide +kernel
theorem dX2_init_5 : decode cX2_init 5 = .ok (.istore_n 3, 1) := by decide +kernel
theorem dX2_init_6 : decode cX2_init 6 = .ok (.iconst 0, 1) := by decide +kernel
theorem dX2_init_7 : decode cX2_init 7 = .ok (.istore 4, 2) := by decide +kernel
theorem dX2_init_9 : decode cX2_init 9 = .ok (.iconst 0, 1) := by decide +kernel
theorem dX2_init_10 : decode cX2_init 10 = .ok (.istore 5, 2) := by decide +kernel
theorem dX2_init_12 : decode cX2_init 12 = .ok (.iconst 0, 1) := by decide +kernel
theorem dX2_init_13 : decode cX2_init 13 = .ok (.istore 6, 2) := by decide +kernel
theorem dX2_init_15 : decode cX2_init 15 = .ok (.iload 6, 2) := by decide +kernel
theorem dX2_init_17 : decode cX2_init 17 = .ok (.iload_n 2, 1) := by decide +kernel
theorem dX2_init_18 : decode cX2_init 18 = .ok (.if_icmp .ge 39, 3) := by decide +kernel
theorem dX2_init_21 : decode cX2_init 21 = .ok (.iload_n 3, 1) := by decide +kernel
theorem dX2_init_22 : decode cX2_init 22 = .ok (.iconst 5, 1) := by decide +kernel
theorem dX2_init_23 : decode cX2_init 23 = .ok (.irem, 1) := by decide +kernel
theorem dX2_init_24 : decode cX2_init 24 = .ok (.istore 7, 2) := by decide +kernel
theorem dX2_init_26 : decode cX2_init 26 = .ok (.iload_n 3, 1) := by decide +kernel
theorem dX2_init_27 : decode cX2_init 27 = .ok (.iconst 5, 1) := by decide +kernel
theorem dX2_init_28 : decode cX2_init 28 = .ok (.idiv, 1) := by decide +kernel
theorem dX2_init_29 : decode cX2_init 29 = .ok (.istore_n 3, 1) := by decide +kernel
theorem dX2_init_30 : decode cX2_init 30 = .ok (.iload 7, 2) := by decide +kernel
theorem dX2_init_32 : decode cX2_init 32 = .ok (.iconst 4, 1) := by decide +kernel
theorem dX2_init_33 : decode cX2_init 33 = .ok (.if_icmp .ne 9, 3) := by decide +kernel
theorem dX2_init_36 : decode cX2_init 36 = .ok (.iinc 5 1, 3) := by decide +kernel
theorem dX2_init_39 : decode cX2_init 39 = .ok (.goto 12, 3) := by decide +kernel
theorem dX2_init_42 : decode cX2_init 42 = .ok (.iload 4, 2) := by decide +kernel
theorem dX2_init_44 : decode cX2_init 44 = .ok (.iconst 1, 1) := by decide +kernel
theorem dX2_init_45 : decode cX2_init 45 = .ok (.iload 7, 2) := by decide +kernel
theorem dX2_init_47 : decode cX2_init 47 = .ok (.ishl, 1) := by decide +kernel
theorem dX2_init_48 : decode cX2_init 48 = .ok (.ior, 1) := by decide +kernel
theorem dX2_init_49 : decode cX2_init 49 = .ok (.istore 4, 2) := by decide +kernel
theorem dX2_init_51 : decode cX2_init 51 = .ok (.iinc 6 1, 3) := by decide +kernel
theorem dX2_init_54 : decode cX2_init 54 = .ok (.goto (-39), 3) := by decide +kernel
theorem dX2_init_57 : decode cX2_init 57 = .ok (.aload_n 0, 1) := by decide +kernel
theorem dX2_init_58 : decode cX2_init 58 = .ok (.iload_n 1, 1) := by decide +kernel
theorem dX2_init_59 : decode cX2_init 59 = .ok (.putfield 9, 3) := by decide +kernel
theorem dX2_init_62 : decode cX2_init 62 = .ok (.aload_n 0, 1) := by decide +kernel
theorem dX2_init_63 : decode cX2_init 63 = .ok (.iload_n 2, 1) := by decide +kernel
theorem dX2_init_64 : decode cX2_init 64 = .ok (.putfield 15, 3) := by decide +kernel
theorem dX2_init_67 : decode cX2_init 67 = .ok (.aload_n 0, 1) := by decide +kernel
theorem dX2_init_68 : decode cX2_init 68 = .ok (.iload 4, 2) := by decide +kernel
theorem dX2_init_70 : decode cX2_init 70 = .ok (.invokestatic 18, 3) := by decide +kernel
theorem dX2_init_73 : decode cX2_init 73 = .ok (.putfield 24, 3) := by decide +kernel
theorem dX2_init_76 : decode cX2_init 76 = .ok (.aload_n 0, 1) := by decide +kernel
theorem dX2_init_77 : decode cX2_init 77 = .ok (.iload 5, 2) := by decide +kernel
theorem dX2_init_79 : decode cX2_init 79 = .ok (.putfield 27, 3) := by decide +kernel
theorem dX2_init_82 : decode cX2_init 82 = .ok (.return_, 1) := by decide +kernel
theorem dX2_broad_0 : decode cX2_broad 0 = .ok (.aload_n 0, 1) := by decide +kernel
theorem dX2_broad_1 : decode cX2_broad 1 = .ok (.getfield 24, 3) := by decide +kernel
theorem dX2_broad_4 : decode cX2_broad 4 = .ok (.ireturn, 1) := by decide +kernel
theorem dX2_failure_0 : decode cX2_failure 0 = .ok (.aload_n 0, 1) := by decide +kernel
theorem dX2_failure_1 : decode cX2_failure 1 = .ok (.getfield 9, 3) := by decide +kernel
theorem dX2_failure_4 : decode cX2_failure 4 = .ok (.ireturn, 1) := by decide +kernel
theorem dX2_canFail_0 : decode cX2_canFail 0 = .ok (.aload_n 0, 1) := by decide +kernel
theorem dX2_canFail_1 : decode cX2_canFail 1 = .ok (.getfield 27, 3) := by decide +kernel
theorem dX2_canFail_4 : decode cX2_canFail 4 = .ok (.aload_n 0, 1) := by decide +kernel
theorem dX2_canFail_5 : decode cX2_canFail 5 = .ok (.getfield 15, 3) := by decide +kernel
theorem dX2_canFail_8 : decode cX2_canFail 8 = .ok (.if_icmp .ge 7, 3) := by decide +kernel
theorem dX2_canFail_11 : decode cX2_canFail 11 = .ok (.iconst 1, 1) := by decide +kernel
theorem dX2_canFail_12 : decode cX2_canFail 12 = .ok (.goto 4, 3) := by decide +kernel
theorem dX2_canFail_15 : decode cX2_canFail 15 = .ok (.iconst 0, 1) := by decide +kernel
theorem dX2_canFail_16 : decode cX2_canFail 16 = .ok (.ireturn, 1) := by decide +kernel
set_option maxRecDepth 20000 in
theorem ggX2_fail_X2_canFail : GoodIn wsX2_fail wsX2_canFail := goodIn_r _ [8, 9, 10, 21, 22, 23, 24, 25, 26, 27, 28, 29, 30, 31, 32, 33, 34, 35, 36, 37, 38, 39, 40, 41, 42, 43, 44] (by decide +kernel) (by decide +kernel)
set_option maxRecDepth 20000 in
theorem gX2_fail_X2_canFail_u30X0 : GoodIn wsX2_fail (va_wsU RX2 30 RX0 "FurrowFair$Fit" ⟨"FurrowFair$Fit", "canFail", "()Z"⟩ yX2_canFail wsX2_canFail) := goodIn_app (goodIn_of _ (by decide +kernel)) ggX2_fail_X2_canFail
set_option maxRecDepth 20000 in
theorem gX2_fail_X2_canFail_u30X1 : GoodIn wsX2_fail (va_wsU RX2 30 RX1 "FurrowFair$Fit" ⟨"FurrowFair$Fit", "canFail", "()Z"⟩ yX2_canFail wsX2_canFail) := goodIn_app (goodIn_of _ (by decide +kernel)) ggX2_fail_X2_canFail
set_option maxRecDepth 20000 in
theorem gX2_fail_X2_canFail : GoodIn wsX2_fail (wsV RX2 30 RX2 yX2_canFail wsX2_canFail) := goodIn_app (goodIn_of _ (by decide +kernel)) ggX2_fail_X2_canFail
set_option maxRecDepth 20000 in
theorem ggX2_fail_X5_canFail : GoodIn wsX2_fail wsX5_canFail := goodIn_r _ [18] (by decide +kernel) (by decide +kernel)
set_option maxRecDepth 20000 in
theorem gX2_fail_X5_canFail_u30X5 : GoodIn wsX2_fail (va_wsO RX2 30 RX5 "FurrowFair$Fit" ⟨"FurrowFair$Fit", "canFail", "()Z"⟩ yX5_canFail wsX5_canFail) := goodIn_app (goodIn_of _ (by decide +kernel)) ggX2_fail_X5_canFail
set_option maxRecDepth 20000 in
theorem gX2_fail_X2_canFail_u30X9 : GoodIn wsX2_fail (va_wsU RX2 30 RX9 "FurrowFair$Fit" ⟨"FurrowFair$Fit", "canFail", "()Z"⟩ yX2_canFail wsX2_canFail) := goodIn_app (goodIn_of _ (by decide +kernel)) ggX2_fail_X2_canFail
set_option maxRecDepth 20000 in
theorem gX2_fail_X2_canFail_u30X10 : GoodIn wsX2_fail (va_wsU RX2 30 RX10 "FurrowFair$Fit" ⟨"FurrowFair$Fit", "canFail", "()Z"⟩ yX2_canFail wsX2_canFail) := goodIn_app (goodIn_of _ (by decide +kernel)) ggX2_fail_X2_canFail
theorem dX2_fail_0 : decode cX2_fail 0 = .ok (.aload_n 0, 1) := by decide +kernel
theorem dX2_fail_1 : decode cX2_fail 1 = .ok (.invokevirtual 30, 3) := by decide +kernel
theorem dX2_fail_4 : decode cX2_fail 4 = .ok (.ifCond .eq 13, 3) := by decide +kernel
theorem dX2_fail_7 : decode cX2_fail 7 = .ok (.new 34, 3) := by decide +kernel
theorem dX2_fail_10 : decode cX2_fail 10 = .ok (.dup, 1) := by decide +kernel
theorem dX2_fail_11 : decode cX2_fail 11 = .ok (.ldc 36, 2) := by decide +kernel
theorem dX2_fail_13 : decode cX2_fail 13 = .ok (.invokespecial 38, 3) := by decide +kernel
theorem dX2_fail_16 : decode cX2_fail 16 = .ok (.athrow, 1) := by decide +kernel
theorem dX2_fail_17 : decode cX2_fail 17 = .ok (.return_, 1) := by decide +kernel
set_option maxRecDepth 20000 in
theorem ggX2_caught_X2_fail : GoodIn wsX2_caught wsX2_fail := goodIn_ca (goodIn_r _ [7, 1, 8, 9, 10, 11, 12, 6, 13, 14, 15, 16, 17, 18, 19, 20, 21, 22, 23, 24, 25, 53, 54, 55, 56, 57, 58, 59, 60, 61, 62, 63, 64, 65, 66, 67, 68, 69, 70, 71, 72, 73, 74, 75, 76] (by decide +kernel) (by decide +kernel)) (goodIn_sub (fun _ h => List.mem_cons_of_mem _ (List.mem_append_right _ h)) (by decide +kernel))
set_option maxRecDepth 20000 in
theorem gX2_caught_X2_fail_u41X0 : GoodIn wsX2_caught (va_wsU RX2 41 RX0 "FurrowFair$Fit" ⟨"FurrowFair$Fit", "fail", "()V"⟩ yX2_fail wsX2_fail) := goodIn_app (goodIn_of _ (by decide +kernel)) ggX2_caught_X2_fail
set_option maxRecDepth 20000 in
theorem gX2_caught_X2_fail_u41X1 : GoodIn wsX2_caught (va_wsU RX2 41 RX1 "FurrowFair$Fit" ⟨"FurrowFair$Fit", "fail", "()V"⟩ yX2_fail wsX2_fail) := goodIn_app (goodIn_of _ (by decide +kernel)) ggX2_caught_X2_fail
set_option maxRecDepth 20000 in
theorem gX2_caught_X2_fail : GoodIn wsX2_caught (wsV RX2 41 RX2 yX2_fail wsX2_fail) := goodIn_app (goodIn_of _ (by decide +kernel)) ggX2_caught_X2_fail
set_option maxRecDepth 20000 in
theorem gX2_caught_X2_fail_u41X5 : GoodIn wsX2_caught (va_wsU RX2 41 RX5 "FurrowFair$Fit" ⟨"FurrowFair$Fit", "fail", "()V"⟩ yX2_fail wsX2_fail) := goodIn_app (goodIn_of _ (by decide +kernel)) ggX2_caught_X2_fail
set_option maxRecDepth 20000 in
theorem gX2_caught_X2_fail_u41X9 : GoodIn wsX2_caught (va_wsU RX2 41 RX9 "FurrowFair$Fit" ⟨"FurrowFair$Fit", "fail", "()V"⟩ yX2_fail wsX2_fail) := goodIn_app (goodIn_of _ (by decide +kernel)) ggX2_caught_X2_fail
set_option maxRecDepth 20000 in
theorem gX2_caught_X2_fail_u41X10 : GoodIn wsX2_caught (va_wsU RX2 41 RX10 "FurrowFair$Fit" ⟨"FurrowFair$Fit", "fail", "()V"⟩ yX2_fail wsX2_fail) := goodIn_app (goodIn_of _ (by decide +kernel)) ggX2_caught_X2_fail
set_option maxRecDepth 20000 in
theorem ggX2_caught_X2_failure : GoodIn wsX2_caught wsX2_failure := goodIn_r _ [36, 37, 53, 54, 55, 56, 57, 58, 59, 60, 61, 62, 63, 64, 65, 66, 67, 68, 69, 70, 71, 72, 73, 74, 75, 76] (by decide +kernel) (by decide +kernel)
set_option maxRecDepth 20000 in
theorem gX2_caught_X2_failure_u44X0 : GoodIn wsX2_caught (va_wsU RX2 44 RX0 "FurrowFair$Fit" ⟨"FurrowFair$Fit", "failure", "()I"⟩ yX2_failure wsX2_failure) := goodIn_app (goodIn_of _ (by decide +kernel)) ggX2_caught_X2_failure
set_option maxRecDepth 20000 in
theorem ggX2_caught_X1_failure : GoodIn wsX2_caught wsX1_failure := goodIn_r _ [42, 43, 44, 53, 54, 55, 56, 57, 58, 59, 60, 61, 62, 63, 64, 65, 66, 67, 68, 69, 70, 71, 72, 73, 74, 75, 76] (by decide +kernel) (by decide +kernel)
set_option maxRecDepth 20000 in
theorem gX2_caught_X1_failure_u44X1 : GoodIn wsX2_caught (va_wsO RX2 44 RX1 "FurrowFair$Fit" ⟨"FurrowFair$Fit", "failure", "()I"⟩ yX1_failure wsX1_failure) := goodIn_app (goodIn_of _ (by decide +kernel)) ggX2_caught_X1_failure
set_option maxRecDepth 20000 in
theorem gX2_caught_X2_failure : GoodIn wsX2_caught (wsV RX2 44 RX2 yX2_failure wsX2_failure) := goodIn_app (goodIn_of _ (by decide +kernel)) ggX2_caught_X2_failure
set_option maxRecDepth 20000 in
theorem gX2_caught_X2_failure_u44X5 : GoodIn wsX2_caught (va_wsU RX2 44 RX5 "FurrowFair$Fit" ⟨"FurrowFair$Fit", "failure", "()I"⟩ yX2_failure wsX2_failure) := goodIn_app (goodIn_of _ (by decide +kernel)) ggX2_caught_X2_failure
set_option maxRecDepth 20000 in
theorem gX2_caught_X2_failure_u44X9 : GoodIn wsX2_caught (va_wsU RX2 44 RX9 "FurrowFair$Fit" ⟨"FurrowFair$Fit", "failure", "()I"⟩ yX2_failure wsX2_failure) := goodIn_app (goodIn_of _ (by decide +kernel)) ggX2_caught_X2_failure
set_option maxRecDepth 20000 in
theorem ggX2_caught_X10_failure : GoodIn wsX2_caught wsX10_failure := goodIn_r _ [52] (by decide +kernel) (by decide +kernel)
set_option maxRecDepth 20000 in
theorem gX2_caught_X10_failure_u44X10 : GoodIn wsX2_caught (va_wsO RX2 44 RX10 "FurrowFair$Fit" ⟨"FurrowFair$Fit", "failure", "()I"⟩ yX10_failure wsX10_failure) := goodIn_app (goodIn_of _ (by decide +kernel)) ggX2_caught_X10_failure
theorem dX2_caught_0 : decode cX2_caught 0 = .ok (.aload_n 0, 1) := by decide +kernel
theorem dX2_caught_1 : decode cX2_caught 1 = .ok (.invokevirtual 41, 3) := by decide +kernel
theorem dX2_caught_4 : decode cX2_caught 4 = .ok (.bipush (-15), 2) := by decide +kernel
theorem dX2_caught_6 : decode cX2_caught 6 = .ok (.ireturn, 1) := by decide +kernel
theorem dX2_caught_7 : decode cX2_caught 7 = .ok (.astore_n 1, 1) := by decide +kernel
theorem dX2_caught_8 : decode cX2_caught 8 = .ok (.aload_n 0, 1) := by decide +kernel
theorem dX2_caught_9 : decode cX2_caught 9 = .ok (.invokevirtual 44, 3) := by decide +kernel
theorem dX2_caught_12 : decode cX2_caught 12 = .ok (.ireturn, 1) := by decide +kernel
theorem dX3_init_0 : decode cX3_init 0 = .ok (.aload_n 0, 1) := by decide +kernel
theorem dX3_init_1 : decode cX3_init 1 = .ok (.invokespecial 3, 3) := by decide +kernel
theorem dX3_init_4 : decode cX3_init 4 = .ok (.aload_n 0, 1) := by decide +kernel
theorem dX3_init_5 : decode cX3_init 5 = .ok (.iconst 4, 1) := by decide +kernel
theorem dX3_init_6 : decode cX3_init 6 = .ok (.newarray .int, 2) := by decide +kernel
theorem dX3_init_8 : decode cX3_init 8 = .ok (.putfield 9, 3) := by decide +kernel
theorem dX3_init_11 : decode cX3_init 11 = .ok (.aload_n 0, 1) := by decide +kernel
theorem dX3_init_12 : decode cX3_init 12 = .ok (.iconst 4, 1) := by decide +kernel
theorem dX3_init_13 : decode cX3_init 13 = .ok (.newarray .int, 2) := by decide +kernel
theorem dX3_init_15 : decode cX3_init 15 = .ok (.putfield 15, 3) := by decide +kernel
theorem dX3_init_18 : decode cX3_init 18 = .ok (.aload_n 0, 1) := by decide +kernel
theorem dX3_init_19 : decode cX3_init 19 = .ok (.iconst 4, 1) := by decide +kernel
theorem dX3_init_20 : decode cX3_init 20 = .ok (.newarray .int, 2) := by decide +kernel
theorem dX3_init_22 : decode cX3_init 22 = .ok (.putfield 18, 3) := by decide +kernel
theorem dX3_init_25 : decode cX3_init 25 = .ok (.aload_n 0, 1) := by decide +kernel
theorem dX3_init_26 : decode cX3_init 26 = .ok (.aload_n 1, 1) := by decide +kernel
theorem dX3_init_27 : decode cX3_init 27 = .ok (.putfield 21, 3) := by decide +kernel
theorem dX3_init_30 : decode cX3_init 30 = .ok (.return_, 1) := by decide +kernel
set_option maxRecDepth 20000 in
theorem ggX3_readFrom_X3_settle : GoodIn wsX3_readFrom wsX3_settle := goodIn_r _ [11, 12, 13, 5, 2, 14, 3, 15, 20, 21, 22, 23, 24, 25, 26, 27, 28, 29, 30, 31, 32] (by decide +kernel) (by decide +kernel)
set_option maxRecDepth 20000 in
theorem gX3_readFrom_X3_settle : GoodIn wsX3_readFrom (wsV RX3 42 RX3 yX3_settle wsX3_settle) := goodIn_app (goodIn_of _ (by decide +kernel)) ggX3_readFrom_X3_settle
theorem dX3_readFrom_0 : decode cX3_readFrom 0 = .ok (.aload_n 1, 1) := by decide +kernel
theorem dX3_readFrom_1 : decode cX3_readFrom 1 = .ok (.getfield 25, 3) := by decide +kernel
theorem dX3_readFrom_4 : decode cX3_readFrom 4 = .ok (.aload_n 0, 1) := by decide +kernel
theorem dX3_readFrom_5 : decode cX3_readFrom 5 = .ok (.getfield 21, 3) := by decide +kernel
theorem dX3_readFrom_8 : decode cX3_readFrom 8 = .ok (.getfield 31, 3) := by decide +kernel
theorem dX3_readFrom_11 : decode cX3_readFrom 11 = .ok (.if_icmp .eq 5, 3) := by decide +kernel
theorem dX3_readFrom_14 : decode cX3_readFrom 14 = .ok (.iconst 0, 1) := by decide +kernel
theorem dX3_readFrom_15 : decode cX3_readFrom 15 = .ok (.ireturn, 1) := by decide +kernel
theorem dX3_readFrom_16 : decode cX3_readFrom 16 = .ok (.iconst 0, 1) := by decide +kernel
theorem dX3_readFrom_17 : decode cX3_readFrom 17 = .ok (.istore_n 2, 1) := by decide +kernel
theorem dX3_readFrom_18 : decode cX3_readFrom 18 = .ok (.iload_n 2, 1) := by decide +kernel
theorem dX3_readFrom_19 : decode cX3_readFrom 19 = .ok (.aload_n 0, 1) := by decide +kernel
theorem dX3_readFrom_20 : decode cX3_readFrom 20 = .ok (.getfield 21, 3) := by decide +kernel
theorem dX3_readFrom_23 : decode cX3_readFrom 23 = .ok (.getfield 31, 3) := by decide +kernel
theorem dX3_readFrom_26 : decode cX3_readFrom 26 = .ok (.if_icmp .ge 36, 3) := by decide +kernel
theorem dX3_readFrom_29 : decode cX3_readFrom 29 = .ok (.aload_n 1, 1) := by decide +kernel
theorem dX3_readFrom_30 : decode cX3_readFrom 30 = .ok (.getfield 36, 3) := by decide +kernel
theorem dX3_readFrom_33 : decode cX3_readFrom 33 = .ok (.iload_n 2, 1) := by decide +kernel
theorem dX3_readFrom_34 : decode cX3_readFrom 34 = .ok (.iaload, 1) := by decide +kernel
theorem dX3_readFrom_35 : decode cX3_readFrom 35 = .ok (.istore_n 3, 1) := by decide +kernel
theorem dX3_readFrom_36 : decode cX3_readFrom 36 = .ok (.iload_n 3, 1) := by decide +kernel
theorem dX3_readFrom_37 : decode cX3_readFrom 37 = .ok (.ifCond .lt 10, 3) := by decide +kernel
theorem dX3_readFrom_40 : decode cX3_readFrom 40 = .ok (.iload_n 3, 1) := by decide +kernel
theorem dX3_readFrom_41 : decode cX3_readFrom 41 = .ok (.sipush 1999, 3) := by decide +kernel
theorem dX3_readFrom_44 : decode cX3_readFrom 44 = .ok (.if_icmp .le 5, 3) := by decide +kernel
theorem dX3_readFrom_47 : decode cX3_readFrom 47 = .ok (.iconst 0, 1) := by decide +kernel
theorem dX3_readFrom_48 : decode cX3_readFrom 48 = .ok (.ireturn, 1) := by decide +kernel
theorem dX3_readFrom_49 : decode cX3_readFrom 49 = .ok (.aload_n 0, 1) := by decide +kernel
theorem dX3_readFrom_50 : decode cX3_readFrom 50 = .ok (.getfield 9, 3) := by decide +kernel
theorem dX3_readFrom_53 : decode cX3_readFrom 53 = .ok (.iload_n 2, 1) := by decide +kernel
theorem dX3_readFrom_54 : decode cX3_readFrom 54 = .ok (.iload_n 3, 1) := by decide +kernel
theorem dX3_readFrom_55 : decode cX3_readFrom 55 = .ok (.iastore, 1) := by decide +kernel
theorem dX3_readFrom_56 : decode cX3_readFrom 56 = .ok (.iinc 2 1, 3) := by decide +kernel
theorem dX3_readFrom_59 : decode cX3_readFrom 59 = .ok (.goto (-41), 3) := by decide +kernel
theorem dX3_readFrom_62 : decode cX3_readFrom 62 = .ok (.iconst 0, 1) := by decide +kernel
theorem dX3_readFrom_63 : decode cX3_readFrom 63 = .ok (.istore_n 2, 1) := by decide +kernel
theorem dX3_readFrom_64 : decode cX3_readFrom 64 = .ok (.iload_n 2, 1) := by decide +kernel
theorem dX3_readFrom_65 : decode cX3_readFrom 65 = .ok (.aload_n 0, 1) := by decide +kernel
theorem dX3_readFrom_66 : decode cX3_readFrom 66 = .ok (.getfield 21, 3) := by decide +kernel
theorem dX3_readFrom_69 : decode cX3_readFrom 69 = .ok (.getfield 39, 3) := by decide +kernel
theorem dX3_readFrom_72 : decode cX3_readFrom 72 = .ok (.if_icmp .ge 14, 3) := by decide +kernel
theorem dX3_readFrom_75 : decode cX3_readFrom 75 = .ok (.aload_n 0, 1) := by decide +kernel
theorem dX3_readFrom_76 : decode cX3_readFrom 76 = .ok (.iload_n 2, 1) := by decide +kernel
theorem dX3_readFrom_77 : decode cX3_readFrom 77 = .ok (.invokevirtual 42, 3) := by decide +kernel
theorem dX3_readFrom_80 : decode cX3_readFrom 80 = .ok (.iinc 2 1, 3) := by decide +kernel
theorem dX3_readFrom_83 : decode cX3_readFrom 83 = .ok (.goto (-19), 3) := by decide +kernel
theorem dX3_readFrom_86 : decode cX3_readFrom 86 = .ok (.iconst 1, 1) := by decide +kernel
theorem dX3_readFrom_87 : decode cX3_readFrom 87 = .ok (.ireturn, 1) := by decide +kernel
theorem dX3_settle_0 : decode cX3_settle 0 = .ok (.aload_n 0, 1) := by decide +kernel
theorem dX3_settle_1 : decode cX3_settle 1 = .ok (.getfield 15, 3) := by decide +kernel
theorem dX3_settle_4 : decode cX3_settle 4 = .ok (.iload_n 1, 1) := by decide +kernel
theorem dX3_settle_5 : decode cX3_settle 5 = .ok (.iconst 0, 1) := by decide +kernel
theorem dX3_settle_6 : decode cX3_settle 6 = .ok (.iastore, 1) := by decide +kernel
theorem dX3_settle_7 : decode cX3_settle 7 = .ok (.aload_n 0, 1) := by decide +kernel
theorem dX3_settle_8 : decode cX3_settle 8 = .ok (.getfield 18, 3) := by decide +kernel
theorem dX3_settle_11 : decode cX3_settle 11 = .ok (.iload_n 1, 1) := by decide +kernel
theorem dX3_settle_12 : decode cX3_settle 12 = .ok (.aload_n 0, 1) := by decide +kernel
theorem dX3_settle_13 : decode cX3_settle 13 = .ok (.getfield 9, 3) := by decide +kernel
theorem dX3_settle_16 : decode cX3_settle 16 = .ok (.iconst 0, 1) := by decide +kernel
theorem dX3_settle_17 : decode cX3_settle 17 = .ok (.iaload, 1) := by decide +kernel
theorem dX3_settle_18 : decode cX3_settle 18 = .ok (.aload_n 0, 1) := by decide +kernel
theorem dX3_settle_19 : decode cX3_settle 19 = .ok (.getfield 21, 3) := by decide +kernel
theorem dX3_settle_22 : decode cX3_settle 22 = .ok (.getfield 46, 3) := by decide +kernel
theorem dX3_settle_25 : decode cX3_settle 25 = .ok (.iconst 0, 1) := by decide +kernel
theorem dX3_settle_26 : decode cX3_settle 26 = .ok (.aaload, 1) := by decide +kernel
theorem dX3_settle_27 : decode cX3_settle 27 = .ok (.iload_n 1, 1) := by decide +kernel
theorem dX3_settle_28 : decode cX3_settle 28 = .ok (.iaload, 1) := by decide +kernel
theorem dX3_settle_29 : decode cX3_settle 29 = .ok (.isub, 1) := by decide +kernel
theorem dX3_settle_30 : decode cX3_settle 30 = .ok (.iastore, 1) := by decide +kernel
theorem dX3_settle_31 : decode cX3_settle 31 = .ok (.iconst 1, 1) := by decide +kernel
theorem dX3_settle_32 : decode cX3_settle 32 = .ok (.istore_n 2, 1) := by decide +kernel
theorem dX3_settle_33 : decode cX3_settle 33 = .ok (.iload_n 2, 1) := by decide +kernel
theorem dX3_settle_34 : decode cX3_settle 34 = .ok (.aload_n 0, 1) := by decide +kernel
theorem dX3_settle_35 : decode cX3_settle 35 = .ok (.getfield 21, 3) := by decide +kernel
theorem dX3_settle_38 : decode cX3_settle 38 = .ok (.getfield 31, 3) := by decide +kernel
theorem dX3_settle_41 : decode cX3_settle 41 = .ok (.if_icmp .ge 52, 3) := by decide +kernel
theorem dX3_settle_44 : decode cX3_settle 44 = .ok (.aload_n 0, 1) := by decide +kernel
theorem dX3_settle_45 : decode cX3_settle 45 = .ok (.getfield 9, 3) := by decide +kernel
theorem dX3_settle_48 : decode cX3_settle 48 = .ok (.iload_n 2, 1) := by decide +kernel
theorem dX3_settle_49 : decode cX3_settle 49 = .ok (.iaload, 1) := by decide +kernel
theorem dX3_settle_50 : decode cX3_settle 50 = .ok (.aload_n 0, 1) := by decide +kernel
theorem dX3_settle_51 : decode cX3_settle 51 = .ok (.getfield 21, 3) := by decide +kernel
theorem dX3_settle_54 : decode cX3_settle 54 = .ok (.getfield 46, 3) := by decide +kernel
theorem dX3_settle_57 : decode cX3_settle 57 = .ok (.iload_n 2, 1) := by decide +kernel
theorem dX3_settle_58 : decode cX3_settle 58 = .ok (.aaload, 1) := by decide +kernel
theorem dX3_settle_59 : decode cX3_settle 59 = .ok (.iload_n 1, 1) := by decide +kernel
theorem dX3_settle_60 : decode cX3_settle 60 = .ok (.iaload, 1) := by decide +kernel
theorem dX3_settle_61 : decode cX3_settle 61 = .ok (.isub, 1) := by decide +kernel
theorem dX3_settle_62 : decode cX3_settle 62 = .ok (.istore_n 3, 1) := by decide +kernel
theorem dX3_settle_63 : decode cX3_settle 63 = .ok (.iload_n 3, 1) := by decide +kernel
theorem dX3_settle_64 : decode cX3_settle 64 = .ok (.aload_n 0, 1) := by decide +kernel
theorem dX3_settle_65 : decode cX3_settle 65 = .ok (.getfield 18, 3) := by decide +kernel
theorem dX3_settle_68 : decode cX3_settle 68 = .ok (.iload_n 1, 1) := by decide +kernel
theorem dX3_settle_69 : decode cX3_settle 69 = .ok (.iaload, 1) := by decide +kernel
theorem dX3_settle_70 : decode cX3_settle 70 = .ok (.if_icmp .le 17, 3) := by decide +kernel
theorem dX3_settle_73 : decode cX3_settle 73 = .ok (.aload_n 0, 1) := by decide +kernel
theorem dX3_settle_74 : decode cX3_settle 74 = .ok (.getfield 15, 3) := by decide +kernel
theorem dX3_settle_77 : decode cX3_settle 77 = .ok (.iload_n 1, 1) := by decide +kernel
theorem dX3_settle_78 : decode cX3_settle 78 = .ok (.iload_n 2, 1) := by decide +kernel
theorem dX3_settle_79 : decode cX3_settle 79 = .ok (.iastore, 1) := by decide +kernel
theorem dX3_settle_80 : decode cX3_settle 80 = .ok (.aload_n 0, 1) := by decide +kernel
theorem dX3_settle_81 : decode cX3_settle 81 = .ok (.getfield 18, 3) := by decide +kernel
theorem dX3_settle_84 : decode cX3_settle 84 = .ok (.iload_n 1, 1) := by decide +kernel
theorem dX3_settle_85 : decode cX3_settle 85 = .ok (.iload_n 3, 1) := by decide +kernel
theorem dX3_settle_86 : decode cX3_settle 86 = .ok (.iastore, 1) := by decide +kernel
theorem dX3_settle_87 : decode cX3_settle 87 = .ok (.iinc 2 1, 3) := by decide +kernel
theorem dX3_settle_90 : decode cX3_settle 90 = .ok (.goto (-57), 3) := by decide +kernel
theorem dX3_settle_93 : decode cX3_settle 93 = .ok (.aload_n 0, 1) := by decide +kernel
theorem dX3_settle_94 : decode cX3_settle 94 = .ok (.getfield 21, 3) := by decide +kernel
theorem dX3_settle_97 : decode cX3_settle 97 = .ok (.getfield 50, 3) := by decide +kernel
theorem dX3_settle_100 : decode cX3_settle 100 = .ok (.iload_n 1, 1) := by decide +kernel
theorem dX3_settle_101 : decode cX3_settle 101 = .ok (.iaload, 1) := by decide +kernel
theorem dX3_settle_102 : decode cX3_settle 102 = .ok (.aload_n 0, 1) := by decide +kernel
theorem dX3_settle_103 : decode cX3_settle 103 = .ok (.getfield 18, 3) := by decide +kernel
theorem dX3_settle_106 : decode cX3_settle 106 = .ok (.iload_n 1, 1) := by decide +kernel
theorem dX3_settle_107 : decode cX3_settle 107 = .ok (.iaload, 1) := by decide +kernel
theorem dX3_settle_108 : decode cX3_settle 108 = .ok (.if_icmp .le 25, 3) := by decide +kernel
theorem dX3_settle_111 : decode cX3_settle 111 = .ok (.aload_n 0, 1) := by decide +kernel
theorem dX3_settle_112 : decode cX3_settle 112 = .ok (.getfield 15, 3) := by decide +kernel
theorem dX3_settle_115 : decode cX3_settle 115 = .ok (.iload_n 1, 1) := by decide +kernel
theorem dX3_settle_116 : decode cX3_settle 116 = .ok (.iconst 4, 1) := by decide +kernel
theorem dX3_settle_117 : decode cX3_settle 117 = .ok (.iastore, 1) := by decide +kernel
theorem dX3_settle_118 : decode cX3_settle 118 = .ok (.aload_n 0, 1) := by decide +kernel
theorem dX3_settle_119 : decode cX3_settle 119 = .ok (.getfield 18, 3) := by decide +kernel
theorem dX3_settle_122 : decode cX3_settle 122 = .ok (.iload_n 1, 1) := by decide +kernel
theorem dX3_settle_123 : decode cX3_settle 123 = .ok (.aload_n 0, 1) := by decide +kernel
theorem dX3_settle_124 : decode cX3_settle 124 = .ok (.getfield 21, 3) := by decide +kernel
theorem dX3_settle_127 : decode cX3_settle 127 = .ok (.getfield 50, 3) := by decide +kernel
theorem dX3_settle_130 : decode cX3_settle 130 = .ok (.iload_n 1, 1) := by decide +kernel
theorem dX3_settle_131 : decode cX3_settle 131 = .ok (.iaload, 1) := by decide +kernel
theorem dX3_settle_132 : decode cX3_settle 132 = .ok (.iastore, 1) := by decide +kernel
theorem dX3_settle_133 : decode cX3_settle 133 = .ok (.return_, 1) := by decide +kernel
theorem dX3_surplus_0 : decode cX3_surplus 0 = .ok (.aload_n 0, 1) := by decide +kernel
theorem dX3_surplus_1 : decode cX3_surplus 1 = .ok (.getfield 21, 3) := by decide +kernel
theorem dX3_surplus_4 : decode cX3_surplus 4 = .ok (.getfield 53, 3) := by decide +kernel
theorem dX3_surplus_7 : decode cX3_surplus 7 = .ok (.iload_n 1, 1) := by decide +kernel
theorem dX3_surplus_8 : decode cX3_surplus 8 = .ok (.iaload, 1) := by decide +kernel
theorem dX3_surplus_9 : decode cX3_surplus 9 = .ok (.aload_n 0, 1) := by decide +kernel
theorem dX3_surplus_10 : decode cX3_surplus 10 = .ok (.getfield 21, 3) := by decide +kernel
theorem dX3_surplus_13 : decode cX3_surplus 13 = .ok (.getfield 56, 3) := by decide +kernel
theorem dX3_surplus_16 : decode cX3_surplus 16 = .ok (.iload_n 1, 1) := by decide +kernel
theorem dX3_surplus_17 : decode cX3_surplus 17 = .ok (.iaload, 1) := by decide +kernel
theorem dX3_surplus_18 : decode cX3_surplus 18 = .ok (.aload_n 0, 1) := by decide +kernel
theorem dX3_surplus_19 : decode cX3_surplus 19 = .ok (.getfield 21, 3) := by decide +kernel
theorem dX3_surplus_22 : decode cX3_surplus 22 = .ok (.getfield 59, 3) := by decide +kernel
theorem dX3_surplus_25 : decode cX3_surplus 25 = .ok (.iload_n 2, 1) := by decide +kernel
theorem dX3_surplus_26 : decode cX3_surplus 26 = .ok (.iaload, 1) := by decide +kernel
theorem dX3_surplus_27 : decode cX3_surplus 27 = .ok (.iadd, 1) := by decide +kernel
theorem dX3_surplus_28 : decode cX3_surplus 28 = .ok (.iload_n 3, 1) := by decide +kernel
theorem dX3_surplus_29 : decode cX3_surplus 29 = .ok (.isub, 1) := by decide +kernel
theorem dX3_surplus_30 : decode cX3_surplus 30 = .ok (.imul, 1) := by decide +kernel
theorem dX3_surplus_31 : decode cX3_surplus 31 = .ok (.ireturn, 1) := by decide +kernel
set_option maxRecDepth 20000 in
theorem ggX3_firstLoss_X3_surplus : GoodIn wsX3_firstLoss wsX3_surplus := goodIn_r _ [10, 1, 11, 12, 13, 14, 15, 16, 17, 18, 19, 20, 21, 22, 23, 24, 25, 26] (by decide +kernel) (by decide +kernel)
set_option maxRecDepth 20000 in
theorem gX3_firstLoss_X3_surplus : GoodIn wsX3_firstLoss (wsV RX3 62 RX3 yX3_surplus wsX3_surplus) := goodIn_app (goodIn_of _ (by decide +kernel)) ggX3_firstLoss_X3_surplus
theorem dX3_firstLoss_0 : decode cX3_firstLoss 0 = .ok (.iconst 0, 1) := by decide +kernel
theorem dX3_firstLoss_1 : decode cX3_firstLoss 1 = .ok (.istore_n 1, 1) := by decide +kernel
theorem dX3_firstLoss_2 : decode cX3_firstLoss 2 = .ok (.iload_n 1, 1) := by decide +kernel
theorem dX3_firstLoss_3 : decode cX3_firstLoss 3 = .ok (.aload_n 0, 1) := by decide +kernel
theorem dX3_firstLoss_4 : decode cX3_firstLoss 4 = .ok (.getfield 21, 3) := by decide +kernel
theorem dX3_firstLoss_7 : decode cX3_firstLoss 7 = .ok (.getfield 31, 3) := by decide +kernel
theorem dX3_firstLoss_10 : decode cX3_firstLoss 10 = .ok (.if_icmp .ge 61, 3) := by decide +kernel
theorem dX3_firstLoss_13 : decode cX3_firstLoss 13 = .ok (.iconst 0, 1) := by decide +kernel
theorem dX3_firstLoss_14 : decode cX3_firstLoss 14 = .ok (.istore_n 2, 1) := by decide +kernel
theorem dX3_firstLoss_15 : decode cX3_firstLoss 15 = .ok (.iconst 0, 1) := by decide +kernel
theorem dX3_firstLoss_16 : decode cX3_firstLoss 16 = .ok (.istore_n 3, 1) := by decide +kernel
theorem dX3_firstLoss_17 : decode cX3_firstLoss 17 = .ok (.iload_n 3, 1) := by decide +kernel
theorem dX3_firstLoss_18 : decode cX3_firstLoss 18 = .ok (.aload_n 0, 1) := by decide +kernel
theorem dX3_firstLoss_19 : decode cX3_firstLoss 19 = .ok (.getfield 21, 3) := by decide +kernel
theorem dX3_firstLoss_22 : decode cX3_firstLoss 22 = .ok (.getfield 39, 3) := by decide +kernel
theorem dX3_firstLoss_25 : decode cX3_firstLoss 25 = .ok (.if_icmp .ge 34, 3) := by decide +kernel
theorem dX3_firstLoss_28 : decode cX3_firstLoss 28 = .ok (.aload_n 0, 1) := by decide +kernel
theorem dX3_firstLoss_29 : decode cX3_firstLoss 29 = .ok (.getfield 15, 3) := by decide +kernel
theorem dX3_firstLoss_32 : decode cX3_firstLoss 32 = .ok (.iload_n 3, 1) := by decide +kernel
theorem dX3_firstLoss_33 : decode cX3_firstLoss 33 = .ok (.iaload, 1) := by decide +kernel
theorem dX3_firstLoss_34 : decode cX3_firstLoss 34 = .ok (.iload_n 1, 1) := by decide +kernel
theorem dX3_firstLoss_35 : decode cX3_firstLoss 35 = .ok (.if_icmp .ne 18, 3) := by decide +kernel
theorem dX3_firstLoss_38 : decode cX3_firstLoss 38 = .ok (.iload_n 2, 1) := by decide +kernel
theorem dX3_firstLoss_39 : decode cX3_firstLoss 39 = .ok (.aload_n 0, 1) := by decide +kernel
theorem dX3_firstLoss_40 : decode cX3_firstLoss 40 = .ok (.iload_n 3, 1) := by decide +kernel
theorem dX3_firstLoss_41 : decode cX3_firstLoss 41 = .ok (.iload_n 1, 1) := by decide +kernel
theorem dX3_firstLoss_42 : decode cX3_firstLoss 42 = .ok (.aload_n 0, 1) := by decide +kernel
theorem dX3_firstLoss_43 : decode cX3_firstLoss 43 = .ok (.getfield 9, 3) := by decide +kernel
theorem dX3_firstLoss_46 : decode cX3_firstLoss 46 = .ok (.iload_n 1, 1) := by decide +kernel
theorem dX3_firstLoss_47 : decode cX3_firstLoss 47 = .ok (.iaload, 1) := by decide +kernel
theorem dX3_firstLoss_48 : decode cX3_firstLoss 48 = .ok (.invokevirtual 62, 3) := by decide +kernel
theorem dX3_firstLoss_51 : decode cX3_firstLoss 51 = .ok (.iadd, 1) := by decide +kernel
theorem dX3_firstLoss_52 : decode cX3_firstLoss 52 = .ok (.istore_n 2, 1) := by decide +kernel
theorem dX3_firstLoss_53 : decode cX3_firstLoss 53 = .ok (.iinc 3 1, 3) := by decide +kernel
theorem dX3_firstLoss_56 : decode cX3_firstLoss 56 = .ok (.goto (-39), 3) := by decide +kernel
theorem dX3_firstLoss_59 : decode cX3_firstLoss 59 = .ok (.iload_n 2, 1) := by decide +kernel
theorem dX3_firstLoss_60 : decode cX3_firstLoss 60 = .ok (.ifCond .ge 5, 3) := by decide +kernel
theorem dX3_firstLoss_63 : decode cX3_firstLoss 63 = .ok (.iload_n 1, 1) := by decide +kernel
theorem dX3_firstLoss_64 : decode cX3_firstLoss 64 = .ok (.ireturn, 1) := by decide +kernel
theorem dX3_firstLoss_65 : decode cX3_firstLoss 65 = .ok (.iinc 1 1, 3) := by decide +kernel
theorem dX3_firstLoss_68 : decode cX3_firstLoss 68 = .ok (.goto (-66), 3) := by decide +kernel
theorem dX3_firstLoss_71 : decode cX3_firstLoss 71 = .ok (.bipush (-4), 2) := by decide +kernel
theorem dX3_firstLoss_73 : decode cX3_firstLoss 73 = .ok (.ireturn, 1) := by decide +kernel
set_option maxRecDepth 20000 in
theorem ggX3_firstOffer_X4_mostWorth : GoodIn wsX3_firstOffer wsX4_mostWorth := goodIn_r _ [8, 9, 10, 11, 12, 13, 14, 33, 34, 35, 36, 37, 38, 39, 40, 41] (by decide +kernel) (by decide +kernel)
set_option maxRecDepth 20000 in
theorem gX3_firstOffer_X4_mostWorth : GoodIn wsX3_firstOffer (wsV RX3 66 RX4 yX4_mostWorth wsX4_mostWorth) := goodIn_app (goodIn_of _ (by decide +kernel)) ggX3_firstOffer_X4_mostWorth
set_option maxRecDepth 20000 in
theorem ggX3_firstOffer_X3_earned : GoodIn wsX3_firstOffer wsX3_earned := goodIn_r _ [19, 1, 20, 21, 22, 23, 24, 25, 18, 26, 27, 28, 3, 29, 30, 31, 32, 33, 34, 35, 36, 37, 38, 39, 40, 41] (by decide +kernel) (by decide +kernel)
set_option maxRecDepth 20000 in
theorem gX3_firstOffer_X3_earned : GoodIn wsX3_firstOffer (wsV RX3 70 RX3 yX3_earned wsX3_earned) := goodIn_app (goodIn_of _ (by decide +kernel)) ggX3_firstOffer_X3_earned
theorem dX3_firstOffer_0 : decode cX3_firstOffer 0 = .ok (.iconst 0, 1) := by decide +kernel
theorem dX3_firstOffer_1 : decode cX3_firstOffer 1 = .ok (.istore_n 1, 1) := by decide +kernel
theorem dX3_firstOffer_2 : decode cX3_firstOffer 2 = .ok (.iload_n 1, 1) := by decide +kernel
theorem dX3_firstOffer_3 : decode cX3_firstOffer 3 = .ok (.aload_n 0, 1) := by decide +kernel
theorem dX3_firstOffer_4 : decode cX3_firstOffer 4 = .ok (.getfield 21, 3) := by decide +kernel
theorem dX3_firstOffer_7 : decode cX3_firstOffer 7 = .ok (.getfield 31, 3) := by decide +kernel
theorem dX3_firstOffer_10 : decode cX3_firstOffer 10 = .ok (.if_icmp .ge 57, 3) := by decide +kernel
theorem dX3_firstOffer_13 : decode cX3_firstOffer 13 = .ok (.aload_n 0, 1) := by decide +kernel
theorem dX3_firstOffer_14 : decode cX3_firstOffer 14 = .ok (.getfield 21, 3) := by decide +kernel
theorem dX3_firstOffer_17 : decode cX3_firstOffer 17 = .ok (.invokevirtual 66, 3) := by decide +kernel
theorem dX3_firstOffer_20 : decode cX3_firstOffer 20 = .ok (.aload_n 0, 1) := by decide +kernel
theorem dX3_firstOffer_21 : decode cX3_firstOffer 21 = .ok (.getfield 21, 3) := by decide +kernel
theorem dX3_firstOffer_24 : decode cX3_firstOffer 24 = .ok (.getfield 59, 3) := by decide +kernel
theorem dX3_firstOffer_27 : decode cX3_firstOffer 27 = .ok (.iload_n 1, 1) := by decide +kernel
theorem dX3_firstOffer_28 : decode cX3_firstOffer 28 = .ok (.iaload, 1) := by decide +kernel
theorem dX3_firstOffer_29 : decode cX3_firstOffer 29 = .ok (.iadd, 1) := by decide +kernel
theorem dX3_firstOffer_30 : decode cX3_firstOffer 30 = .ok (.istore_n 2, 1) := by decide +kernel
theorem dX3_firstOffer_31 : decode cX3_firstOffer 31 = .ok (.iconst 0, 1) := by decide +kernel
theorem dX3_firstOffer_32 : decode cX3_firstOffer 32 = .ok (.istore_n 3, 1) := by decide +kernel
theorem dX3_firstOffer_33 : decode cX3_firstOffer 33 = .ok (.iload_n 3, 1) := by decide +kernel
theorem dX3_firstOffer_34 : decode cX3_firstOffer 34 = .ok (.iload_n 2, 1) := by decide +kernel
theorem dX3_firstOffer_35 : decode cX3_firstOffer 35 = .ok (.if_icmp .ge 26, 3) := by decide +kernel
theorem dX3_firstOffer_38 : decode cX3_firstOffer 38 = .ok (.aload_n 0, 1) := by decide +kernel
theorem dX3_firstOffer_39 : decode cX3_firstOffer 39 = .ok (.iload_n 1, 1) := by decide +kernel
theorem dX3_firstOffer_40 : decode cX3_firstOffer 40 = .ok (.iload_n 3, 1) := by decide +kernel
theorem dX3_firstOffer_41 : decode cX3_firstOffer 41 = .ok (.invokevirtual 70, 3) := by decide +kernel
theorem dX3_firstOffer_44 : decode cX3_firstOffer 44 = .ok (.ifCond .le 11, 3) := by decide +kernel
theorem dX3_firstOffer_47 : decode cX3_firstOffer 47 = .ok (.sipush 10000, 3) := by decide +kernel
theorem dX3_firstOffer_50 : decode cX3_firstOffer 50 = .ok (.iload_n 1, 1) := by decide +kernel
theorem dX3_firstOffer_51 : decode cX3_firstOffer 51 = .ok (.imul, 1) := by decide +kernel
theorem dX3_firstOffer_52 : decode cX3_firstOffer 52 = .ok (.iload_n 3, 1) := by decide +kernel
theorem dX3_firstOffer_53 : decode cX3_firstOffer 53 = .ok (.iadd, 1) := by decide +kernel
theorem dX3_firstOffer_54 : decode cX3_firstOffer 54 = .ok (.ireturn, 1) := by decide +kernel
theorem dX3_firstOffer_55 : decode cX3_firstOffer 55 = .ok (.iinc 3 1, 3) := by decide +kernel
theorem dX3_firstOffer_58 : decode cX3_firstOffer 58 = .ok (.goto (-25), 3) := by decide +kernel
theorem dX3_firstOffer_61 : decode cX3_firstOffer 61 = .ok (.iinc 1 1, 3) := by decide +kernel
theorem dX3_firstOffer_64 : decode cX3_firstOffer 64 = .ok (.goto (-62), 3) := by decide +kernel
theorem dX3_firstOffer_67 : decode cX3_firstOffer 67 = .ok (.bipush (-4), 2) := by decide +kernel
theorem dX3_firstOffer_69 : decode cX3_firstOffer 69 = .ok (.ireturn, 1) := by decide +kernel
set_option maxRecDepth 20000 in
theorem ggX3_earned_X3_surplus : GoodIn wsX3_earned wsX3_surplus := goodIn_r _ [9, 1, 10, 11, 12, 13, 14, 15, 16, 17, 18, 19, 20, 21, 22, 23, 24, 25] (by decide +kernel) (by decide +kernel)
set_option maxRecDepth 20000 in
theorem gX3_earned_X3_surplus : GoodIn wsX3_earned (wsV RX3 62 RX3 yX3_surplus wsX3_surplus) := goodIn_app (goodIn_of _ (by decide +kernel)) ggX3_earned_X3_surplus
theorem dX3_earned_0 : decode cX3_earned 0 = .ok (.iconst 0, 1) := by decide +kernel
theorem dX3_earned_1 : decode cX3_earned 1 = .ok (.istore_n 3, 1) := by decide +kernel
theorem dX3_earned_2 : decode cX3_earned 2 = .ok (.iconst 0, 1) := by decide +kernel
theorem dX3_earned_3 : decode cX3_earned 3 = .ok (.istore 4, 2) := by decide +kernel
theorem dX3_earned_5 : decode cX3_earned 5 = .ok (.iload 4, 2) := by decide +kernel
theorem dX3_earned_7 : decode cX3_earned 7 = .ok (.aload_n 0, 1) := by decide +kernel
theorem dX3_earned_8 : decode cX3_earned 8 = .ok (.getfield 21, 3) := by decide +kernel
theorem dX3_earned_11 : decode cX3_earned 11 = .ok (.getfield 39, 3) := by decide +kernel
theorem dX3_earned_14 : decode cX3_earned 14 = .ok (.if_icmp .ge 44, 3) := by decide +kernel
theorem dX3_earned_17 : decode cX3_earned 17 = .ok (.iload_n 2, 1) := by decide +kernel
theorem dX3_earned_18 : decode cX3_earned 18 = .ok (.aload_n 0, 1) := by decide +kernel
theorem dX3_earned_19 : decode cX3_earned 19 = .ok (.getfield 21, 3) := by decide +kernel
theorem dX3_earned_22 : decode cX3_earned 22 = .ok (.getfield 46, 3) := by decide +kernel
theorem dX3_earned_25 : decode cX3_earned 25 = .ok (.iload_n 1, 1) := by decide +kernel
theorem dX3_earned_26 : decode cX3_earned 26 = .ok (.aaload, 1) := by decide +kernel
theorem dX3_earned_27 : decode cX3_earned 27 = .ok (.iload 4, 2) := by decide +kernel
theorem dX3_earned_29 : decode cX3_earned 29 = .ok (.iaload, 1) := by decide +kernel
theorem dX3_earned_30 : decode cX3_earned 30 = .ok (.isub, 1) := by decide +kernel
theorem dX3_earned_31 : decode cX3_earned 31 = .ok (.aload_n 0, 1) := by decide +kernel
theorem dX3_earned_32 : decode cX3_earned 32 = .ok (.getfield 18, 3) := by decide +kernel
theorem dX3_earned_35 : decode cX3_earned 35 = .ok (.iload 4, 2) := by decide +kernel
theorem dX3_earned_37 : decode cX3_earned 37 = .ok (.iaload, 1) := by decide +kernel
theorem dX3_earned_38 : decode cX3_earned 38 = .ok (.if_icmp .le 14, 3) := by decide +kernel
theorem dX3_earned_41 : decode cX3_earned 41 = .ok (.iload_n 3, 1) := by decide +kernel
theorem dX3_earned_42 : decode cX3_earned 42 = .ok (.aload_n 0, 1) := by decide +kernel
theorem dX3_earned_43 : decode cX3_earned 43 = .ok (.iload 4, 2) := by decide +kernel
theorem dX3_earned_45 : decode cX3_earned 45 = .ok (.iload_n 1, 1) := by decide +kernel
theorem dX3_earned_46 : decode cX3_earned 46 = .ok (.iload_n 2, 1) := by decide +kernel
theorem dX3_earned_47 : decode cX3_earned 47 = .ok (.invokevirtual 62, 3) := by decide +kernel
theorem dX3_earned_50 : decode cX3_earned 50 = .ok (.iadd, 1) := by decide +kernel
theorem dX3_earned_51 : decode cX3_earned 51 = .ok (.istore_n 3, 1) := by decide +kernel
theorem dX3_earned_52 : decode cX3_earned 52 = .ok (.iinc 4 1, 3) := by decide +kernel
theorem dX3_earned_55 : decode cX3_earned 55 = .ok (.goto (-50), 3) := by decide +kernel
theorem dX3_earned_58 : decode cX3_earned 58 = .ok (.iload_n 3, 1) := by decide +kernel
theorem dX3_earned_59 : decode cX3_earned 59 = .ok (.ireturn, 1) := by decide +kernel
theorem dX4_init_0 : decode cX4_init 0 = .ok (.aload_n 0, 1) := by decide +kernel
theorem dX4_init_1 : decode cX4_init 1 = .ok (.invokespecial 3, 3) := by decide +kernel
theorem dX4_init_4 : decode cX4_init 4 = .ok (.aload_n 0, 1) := by decide +kernel
theorem dX4_init_5 : decode cX4_init 5 = .ok (.iconst 4, 1) := by decide +kernel
theorem dX4_init_6 : decode cX4_init 6 = .ok (.newarray .int, 2) := by decide +kernel
theorem dX4_init_8 : decode cX4_init 8 = .ok (.putfield 9, 3) := by decide +kernel
theorem dX4_init_11 : decode cX4_init 11 = .ok (.aload_n 0, 1) := by decide +kernel
theorem dX4_init_12 : decode cX4_init 12 = .ok (.iconst 4, 1) := by decide +kernel
theorem dX4_init_13 : decode cX4_init 13 = .ok (.newarray .int, 2) := by decide +kernel
theorem dX4_init_15 : decode cX4_init 15 = .ok (.putfield 15, 3) := by decide +kernel
theorem dX4_init_18 : decode cX4_init 18 = .ok (.aload_n 0, 1) := by decide +kernel
theorem dX4_init_19 : decode cX4_init 19 = .ok (.iconst 4, 1) := by decide +kernel
theorem dX4_init_20 : decode cX4_init 20 = .ok (.newarray .int, 2) := by decide +kernel
theorem dX4_init_22 : decode cX4_init 22 = .ok (.putfield 18, 3) := by decide +kernel
theorem dX4_init_25 : decode cX4_init 25 = .ok (.aload_n 0, 1) := by decide +kernel
theorem dX4_init_26 : decode cX4_init 26 = .ok (.iconst 4, 1) := by decide +kernel
theorem dX4_init_27 : decode cX4_init 27 = .ok (.newarray .int, 2) := by decide +kernel
theorem dX4_init_29 : decode cX4_init 29 = .ok (.putfield 21, 3) := by decide +kernel
theorem dX4_init_32 : decode cX4_init 32 = .ok (.aload_n 0, 1) := by decide +kernel
theorem dX4_init_33 : decode cX4_init 33 = .ok (.iconst 4, 1) := by decide +kernel
theorem dX4_init_34 : decode cX4_init 34 = .ok (.newarray .int, 2) := by decide +kernel
theorem dX4_init_36 : decode cX4_init 36 = .ok (.putfield 24, 3) := by decide +kernel
theorem dX4_init_39 : decode cX4_init 39 = .ok (.aload_n 0, 1) := by decide +kernel
theorem dX4_init_40 : decode cX4_init 40 = .ok (.iconst 4, 1) := by decide +kernel
theorem dX4_init_41 : decode cX4_init 41 = .ok (.iconst 4, 1) := by decide +kernel
theorem dX4_init_42 : decode cX4_init 42 = .ok (.multianewarray 27 2, 4) := by decide +kernel
theorem dX4_init_46 : decode cX4_init 46 = .ok (.putfield 29, 3) := by decide +kernel
theorem dX4_init_49 : decode cX4_init 49 = .ok (.return_, 1) := by decide +kernel
theorem dX4_clear_0 : decode cX4_clear 0 = .ok (.aload_n 0, 1) := by decide +kernel
theorem dX4_clear_1 : decode cX4_clear 1 = .ok (.iconst 0, 1) := by decide +kernel
theorem dX4_clear_2 : decode cX4_clear 2 = .ok (.putfield 32, 3) := by decide +kernel
theorem dX4_clear_5 : decode cX4_clear 5 = .ok (.aload_n 0, 1) := by decide +kernel
theorem dX4_clear_6 : decode cX4_clear 6 = .ok (.iconst 0, 1) := by decide +kernel
theorem dX4_clear_7 : decode cX4_clear 7 = .ok (.putfield 36, 3) := by decide +kernel
theorem dX4_clear_10 : decode cX4_clear 10 = .ok (.aload_n 0, 1) := by decide +kernel
theorem dX4_clear_11 : decode cX4_clear 11 = .ok (.iconst 0, 1) := by decide +kernel
theorem dX4_clear_12 : decode cX4_clear 12 = .ok (.putfield 39, 3) := by decide +kernel
theorem dX4_clear_15 : decode cX4_clear 15 = .ok (.return_, 1) := by decide +kernel
theorem dX4_takeFrom_0 : decode cX4_takeFrom 0 = .ok (.aload_n 0, 1) := by decide +kernel
theorem dX4_takeFrom_1 : decode cX4_takeFrom 1 = .ok (.aload_n 1, 1) := by decide +kernel
theorem dX4_takeFrom_2 : decode cX4_takeFrom 2 = .ok (.getfield 32, 3) := by decide +kernel
theorem dX4_takeFrom_5 : decode cX4_takeFrom 5 = .ok (.putfield 32, 3) := by decide +kernel
theorem dX4_takeFrom_8 : decode cX4_takeFrom 8 = .ok (.aload_n 0, 1) := by decide +kernel
theorem dX4_takeFrom_9 : decode cX4_takeFrom 9 = .ok (.aload_n 1, 1) := by decide +kernel
theorem dX4_takeFrom_10 : decode cX4_takeFrom 10 = .ok (.getfield 36, 3) := by decide +kernel
theorem dX4_takeFrom_13 : decode cX4_takeFrom 13 = .ok (.putfield 36, 3) := by decide +kernel
theorem dX4_takeFrom_16 : decode cX4_takeFrom 16 = .ok (.aload_n 0, 1) := by decide +kernel
theorem dX4_takeFrom_17 : decode cX4_takeFrom 17 = .ok (.aload_n 1, 1) := by decide +kernel
theorem dX4_takeFrom_18 : decode cX4_takeFrom 18 = .ok (.getfield 39, 3) := by decide +kernel
theorem dX4_takeFrom_21 : decode cX4_takeFrom 21 = .ok (.putfield 39, 3) := by decide +kernel
theorem dX4_takeFrom_24 : decode cX4_takeFrom 24 = .ok (.aload_n 1, 1) := by decide +kernel
theorem dX4_takeFrom_25 : decode cX4_takeFrom 25 = .ok (.getfield 9, 3) := by decide +kernel
theorem dX4_takeFrom_28 : decode cX4_takeFrom 28 = .ok (.iconst 0, 1) := by decide +kernel
theorem dX4_takeFrom_29 : decode cX4_takeFrom 29 = .ok (.aload_n 0, 1) := by decide +kernel
theorem dX4_takeFrom_30 : decode cX4_takeFrom 30 = .ok (.getfield 9, 3) := by decide +kernel
theorem dX4_takeFrom_33 : decode cX4_takeFrom 33 = .ok (.iconst 0, 1) := by decide +kernel
theorem dX4_takeFrom_34 : decode cX4_takeFrom 34 = .ok (.iconst 4, 1) := by decide +kernel
theorem dX4_takeFrom_35 : decode cX4_takeFrom 35 = .ok (.invokestatic 42, 3) := by decide +kernel
theorem dX4_takeFrom_38 : decode cX4_takeFrom 38 = .ok (.aload_n 1, 1) := by decide +kernel
theorem dX4_takeFrom_39 : decode cX4_takeFrom 39 = .ok (.getfield 15, 3) := by decide +kernel
theorem dX4_takeFrom_42 : decode cX4_takeFrom 42 = .ok (.iconst 0, 1) := by decide +kernel
theorem dX4_takeFrom_43 : decode cX4_takeFrom 43 = .ok (.aload_n 0, 1) := by decide +kernel
theorem dX4_takeFrom_44 : decode cX4_takeFrom 44 = .ok (.getfield 15, 3) := by decide +kernel
theorem dX4_takeFrom_47 : decode cX4_takeFrom 47 = .ok (.iconst 0, 1) := by decide +kernel
theorem dX4_takeFrom_48 : decode cX4_takeFrom 48 = .ok (.iconst 4, 1) := by decide +kernel
theorem dX4_takeFrom_49 : decode cX4_takeFrom 49 = .ok (.invokestatic 42, 3) := by decide +kernel
theorem dX4_takeFrom_52 : decode cX4_takeFrom 52 = .ok (.aload_n 1, 1) := by decide +kernel
theorem dX4_takeFrom_53 : decode cX4_takeFrom 53 = .ok (.getfield 18, 3) := by decide +kernel
theorem dX4_takeFrom_56 : decode cX4_takeFrom 56 = .ok (.iconst 0, 1) := by decide +kernel
theorem dX4_takeFrom_57 : decode cX4_takeFrom 57 = .ok (.aload_n 0, 1) := by decide +kernel
theorem dX4_takeFrom_58 : decode cX4_takeFrom 58 = .ok (.getfield 18, 3) := by decide +kernel
theorem dX4_takeFrom_61 : decode cX4_takeFrom 61 = .ok (.iconst 0, 1) := by decide +kernel
theorem dX4_takeFrom_62 : decode cX4_takeFrom 62 = .ok (.iconst 4, 1) := by decide +kernel
theorem dX4_takeFrom_63 : decode cX4_takeFrom 63 = .ok (.invokestatic 42, 3) := by decide +kernel
theorem dX4_takeFrom_66 : decode cX4_takeFrom 66 = .ok (.aload_n 1, 1) := by decide +kernel
theorem dX4_takeFrom_67 : decode cX4_takeFrom 67 = .ok (.getfield 21, 3) := by decide +kernel
theorem dX4_takeFrom_70 : decode cX4_takeFrom 70 = .ok (.iconst 0, 1) := by decide +kernel
theorem dX4_takeFrom_71 : decode cX4_takeFrom 71 = .ok (.aload_n 0, 1) := by decide +kernel
theorem dX4_takeFrom_72 : decode cX4_takeFrom 72 = .ok (.getfield 21, 3) := by decide +kernel
theorem dX4_takeFrom_75 : decode cX4_takeFrom 75 = .ok (.iconst 0, 1) := by decide +kernel
theorem dX4_takeFrom_76 : decode cX4_takeFrom 76 = .ok (.iconst 4, 1) := by decide +kernel
theorem dX4_takeFrom_77 : decode cX4_takeFrom 77 = .ok (.invokestatic 42, 3) := by decide +kernel
theorem dX4_takeFrom_80 : decode cX4_takeFrom 80 = .ok (.aload_n 1, 1) := by decide +kernel
theorem dX4_takeFrom_81 : decode cX4_takeFrom 81 = .ok (.getfield 24, 3) := by decide +kernel
theorem dX4_takeFrom_84 : decode cX4_takeFrom 84 = .ok (.iconst 0, 1) := by decide +kernel
theorem dX4_takeFrom_85 : decode cX4_takeFrom 85 = .ok (.aload_n 0, 1) := by decide +kernel
theorem dX4_takeFrom_86 : decode cX4_takeFrom 86 = .ok (.getfield 24, 3) := by decide +kernel
theorem dX4_takeFrom_89 : decode cX4_takeFrom 89 = .ok (.iconst 0, 1) := by decide +kernel
theorem dX4_takeFrom_90 : decode cX4_takeFrom 90 = .ok (.iconst 4, 1) := by decide +kernel
theorem dX4_takeFrom_91 : decode cX4_takeFrom 91 = .ok (.invokestatic 42, 3) := by decide +kernel
theorem dX4_takeFrom_94 : decode cX4_takeFrom 94 = .ok (.iconst 0, 1) := by decide +kernel
theorem dX4_takeFrom_95 : decode cX4_takeFrom 95 = .ok (.istore_n 2, 1) := by decide +kernel
theorem dX4_takeFrom_96 : decode cX4_takeFrom 96 = .ok (.iload_n 2, 1) := by decide +kernel
theorem dX4_takeFrom_97 : decode cX4_takeFrom 97 = .ok (.iconst 4, 1) := by decide +kernel
theorem dX4_takeFrom_98 : decode cX4_takeFrom 98 = .ok (.if_icmp .ge 27, 3) := by decide +kernel
theorem dX4_takeFrom_101 : decode cX4_takeFrom 101 = .ok (.aload_n 1, 1) := by decide +kernel
theorem dX4_takeFrom_102 : decode cX4_takeFrom 102 = .ok (.getfield 29, 3) := by decide +kernel
theorem dX4_takeFrom_105 : decode cX4_takeFrom 105 = .ok (.iload_n 2, 1) := by decide +kernel
theorem dX4_takeFrom_106 : decode cX4_takeFrom 106 = .ok (.aaload, 1) := by decide +kernel
theorem dX4_takeFrom_107 : decode cX4_takeFrom 107 = .ok (.iconst 0, 1) := by decide +kernel
theorem dX4_takeFrom_108 : decode cX4_takeFrom 108 = .ok (.aload_n 0, 1) := by decide +kernel
theorem dX4_takeFrom_109 : decode cX4_takeFrom 109 = .ok (.getfield 29, 3) := by decide +kernel
theorem dX4_takeFrom_112 : decode cX4_takeFrom 112 = .ok (.iload_n 2, 1) := by decide +kernel
theorem dX4_takeFrom_113 : decode cX4_takeFrom 113 = .ok (.aaload, 1) := by decide +kernel
theorem dX4_takeFrom_114 : decode cX4_takeFrom 114 = .ok (.iconst 0, 1) := by decide +kernel
theorem dX4_takeFrom_115 : decode cX4_takeFrom 115 = .ok (.iconst 4, 1) := by decide +kernel
theorem dX4_takeFrom_116 : decode cX4_takeFrom 116 = .ok (.invokestatic 42, 3) := by decide +kernel
theorem dX4_takeFrom_119 : decode cX4_takeFrom 119 = .ok (.iinc 2 1, 3) := by decide +kernel
theorem dX4_takeFrom_122 : decode cX4_takeFrom 122 = .ok (.goto (-26), 3) := by decide +kernel
theorem dX4_takeFrom_125 : decode cX4_takeFrom 125 = .ok (.return_, 1) := by decide +kernel
theorem dX4_hasSort_0 : decode cX4_hasSort 0 = .ok (.iload_n 1, 1) := by decide +kernel
theorem dX4_hasSort_1 : decode cX4_hasSort 1 = .ok (.ifCond .lt 15, 3) := by decide +kernel
theorem dX4_hasSort_4 : decode cX4_hasSort 4 = .ok (.iload_n 1, 1) := by decide +kernel
theorem dX4_hasSort_5 : decode cX4_hasSort 5 = .ok (.aload_n 0, 1) := by decide +kernel
theorem dX4_hasSort_6 : decode cX4_hasSort 6 = .ok (.getfield 32, 3) := by decide +kernel
theorem dX4_hasSort_9 : decode cX4_hasSort 9 = .ok (.if_icmp .ge 7, 3) := by decide +kernel
theorem dX4_hasSort_12 : decode cX4_hasSort 12 = .ok (.iconst 1, 1) := by decide +kernel
theorem dX4_hasSort_13 : decode cX4_hasSort 13 = .ok (.goto 4, 3) := by decide +kernel
theorem dX4_hasSort_16 : decode cX4_hasSort 16 = .ok (.iconst 0, 1) := by decide +kernel
theorem dX4_hasSort_17 : decode cX4_hasSort 17 = .ok (.ireturn, 1) := by decide +kernel
theorem dX4_hasMark_0 : decode cX4_hasMark 0 = .ok (.iload_n 1, 1) := by decide +kernel
theorem dX4_hasMark_1 : decode cX4_hasMark 1 = .ok (.ifCond .lt 15, 3) := by decide +kernel
theorem dX4_hasMark_4 : decode cX4_hasMark 4 = .ok (.iload_n 1, 1) := by decide +kernel
theorem dX4_hasMark_5 : decode cX4_hasMark 5 = .ok (.aload_n 0, 1) := by decide +kernel
theorem dX4_hasMark_6 : decode cX4_hasMark 6 = .ok (.getfield 36, 3) := by decide +kernel
theorem dX4_hasMark_9 : decode cX4_hasMark 9 = .ok (.if_icmp .ge 7, 3) := by decide +kernel
theorem dX4_hasMark_12 : decode cX4_hasMark 12 = .ok (.iconst 1, 1) := by decide +kernel
theorem dX4_hasMark_13 : decode cX4_hasMark 13 = .ok (.goto 4, 3) := by decide +kernel
theorem dX4_hasMark_16 : decode cX4_hasMark 16 = .ok (.iconst 0, 1) := by decide +kernel
theorem dX4_hasMark_17 : decode cX4_hasMark 17 = .ok (.ireturn, 1) := by decide +kernel
theorem dX4_fitNumbers_0 : decode cX4_fitNumbers 0 = .ok (.iconst 1, 1) := by decide +kernel
theorem dX4_fitNumbers_1 : decode cX4_fitNumbers 1 = .ok (.istore_n 1, 1) := by decide +kernel
theorem dX4_fitNumbers_2 : decode cX4_fitNumbers 2 = .ok (.iconst 0, 1) := by decide +kernel
theorem dX4_fitNumbers_3 : decode cX4_fitNumbers 3 = .ok (.istore_n 2, 1) := by decide +kernel
theorem dX4_fitNumbers_4 : decode cX4_fitNumbers 4 = .ok (.iload_n 2, 1) := by decide +kernel
theorem dX4_fitNumbers_5 : decode cX4_fitNumbers 5 = .ok (.aload_n 0, 1) := by decide +kernel
theorem dX4_fitNumbers_6 : decode cX4_fitNumbers 6 = .ok (.getfield 32, 3) := by decide +kernel
theorem dX4_fitNumbers_9 : decode cX4_fitNumbers 9 = .ok (.if_icmp .ge 13, 3) := by decide +kernel
theorem dX4_fitNumbers_12 : decode cX4_fitNumbers 12 = .ok (.iload_n 1, 1) := by decide +kernel
theorem dX4_fitNumbers_13 : decode cX4_fitNumbers 13 = .ok (.iconst 5, 1) := by decide +kernel
theorem dX4_fitNumbers_14 : decode cX4_fitNumbers 14 = .ok (.imul, 1) := by decide +kernel
theorem dX4_fitNumbers_15 : decode cX4_fitNumbers 15 = .ok (.istore_n 1, 1) := by decide +kernel
theorem dX4_fitNumbers_16 : decode cX4_fitNumbers 16 = .ok (.iinc 2 1, 3) := by decide +kernel
theorem dX4_fitNumbers_19 : decode cX4_fitNumbers 19 = .ok (.goto (-15), 3) := by decide +kernel
theorem dX4_fitNumbers_22 : decode cX4_fitNumbers 22 = .ok (.iload_n 1, 1) := by decide +kernel
theorem dX4_fitNumbers_23 : decode cX4_fitNumbers 23 = .ok (.ireturn, 1) := by decide +kernel
theorem dX4_hasFit_0 : decode cX4_hasFit 0 = .ok (.iload_n 1, 1) := by decide +kernel
theorem dX4_hasFit_1 : decode cX4_hasFit 1 = .ok (.ifCond .ge 5, 3) := by decide +kernel
theorem dX4_hasFit_4 : decode cX4_hasFit 4 = .ok (.iconst 0, 1) := by decide +kernel
theorem dX4_hasFit_5 : decode cX4_hasFit 5 = .ok (.ireturn, 1) := by decide +kernel
theorem dX4_hasFit_6 : decode cX4_hasFit 6 = .ok (.iload_n 1, 1) := by decide +kernel
theorem dX4_hasFit_7 : decode cX4_hasFit 7 = .ok (.istore_n 2, 1) := by decide +kernel
theorem dX4_hasFit_8 : decode cX4_hasFit 8 = .ok (.iconst 0, 1) := by decide +kernel
theorem dX4_hasFit_9 : decode cX4_hasFit 9 = .ok (.istore_n 3, 1) := by decide +kernel
theorem dX4_hasFit_10 : decode cX4_hasFit 10 = .ok (.iload_n 3, 1) := by decide +kernel
theorem dX4_hasFit_11 : decode cX4_hasFit 11 = .ok (.aload_n 0, 1) := by decide +kernel
theorem dX4_hasFit_12 : decode cX4_hasFit 12 = .ok (.getfield 32, 3) := by decide +kernel
theorem dX4_hasFit_15 : decode cX4_hasFit 15 = .ok (.if_icmp .ge 35, 3) := by decide +kernel
theorem dX4_hasFit_18 : decode cX4_hasFit 18 = .ok (.iload_n 2, 1) := by decide +kernel
theorem dX4_hasFit_19 : decode cX4_hasFit 19 = .ok (.iconst 5, 1) := by decide +kernel
theorem dX4_hasFit_20 : decode cX4_hasFit 20 = .ok (.irem, 1) := by decide +kernel
theorem dX4_hasFit_21 : decode cX4_hasFit 21 = .ok (.istore 4, 2) := by decide +kernel
theorem dX4_hasFit_23 : decode cX4_hasFit 23 = .ok (.iload 4, 2) := by decide +kernel
theorem dX4_hasFit_25 : decode cX4_hasFit 25 = .ok (.iconst 4, 1) := by decide +kernel
theorem dX4_hasFit_26 : decode cX4_hasFit 26 = .ok (.if_icmp .eq 14, 3) := by decide +kernel
theorem dX4_hasFit_29 : decode cX4_hasFit 29 = .ok (.iload 4, 2) := by decide +kernel
theorem dX4_hasFit_31 : decode cX4_hasFit 31 = .ok (.aload_n 0, 1) := by decide +kernel
theorem dX4_hasFit_32 : decode cX4_hasFit 32 = .ok (.getfield 36, 3) := by decide +kernel
theorem dX4_hasFit_35 : decode cX4_hasFit 35 = .ok (.if_icmp .lt 5, 3) := by decide +kernel
theorem dX4_hasFit_38 : decode cX4_hasFit 38 = .ok (.iconst 0, 1) := by decide +kernel
theorem dX4_hasFit_39 : decode cX4_hasFit 39 = .ok (.ireturn, 1) := by decide +kernel
theorem dX4_hasFit_40 : decode cX4_hasFit 40 = .ok (.iload_n 2, 1) := by decide +kernel
theorem dX4_hasFit_41 : decode cX4_hasFit 41 = .ok (.iconst 5, 1) := by decide +kernel
theorem dX4_hasFit_42 : decode cX4_hasFit 42 = .ok (.idiv, 1) := by decide +kernel
theorem dX4_hasFit_43 : decode cX4_hasFit 43 = .ok (.istore_n 2, 1) := by decide +kernel
theorem dX4_hasFit_44 : decode cX4_hasFit 44 = .ok (.iinc 3 1, 3) := by decide +kernel
theorem dX4_hasFit_47 : decode cX4_hasFit 47 = .ok (.goto (-37), 3) := by decide +kernel
theorem dX4_hasFit_50 : decode cX4_hasFit 50 = .ok (.iload_n 2, 1) := by decide +kernel
theorem dX4_hasFit_51 : decode cX4_hasFit 51 = .ok (.ifCond .ne 7, 3) := by decide +kernel
theorem dX4_hasFit_54 : decode cX4_hasFit 54 = .ok (.iconst 1, 1) := by decide +kernel
theorem dX4_hasFit_55 : decode cX4_hasFit 55 = .ok (.goto 4, 3) := by decide +kernel
theorem dX4_hasFit_58 : decode cX4_hasFit 58 = .ok (.iconst 0, 1) := by decide +kernel
theorem dX4_hasFit_59 : decode cX4_hasFit 59 = .ok (.ireturn, 1) := by decide +kernel
theorem dX4_allMarks_0 : decode cX4_allMarks 0 = .ok (.iconst 1, 1) := by decide +kernel
theorem dX4_allMarks_1 : decode cX4_allMarks 1 = .ok (.aload_n 0, 1) := by decide +kernel
theorem dX4_allMarks_2 : decode cX4_allMarks 2 = .ok (.getfield 36, 3) := by decide +kernel
theorem dX4_allMarks_5 : decode cX4_allMarks 5 = .ok (.ishl, 1) := by decide +kernel
theorem dX4_allMarks_6 : decode cX4_allMarks 6 = .ok (.iconst 1, 1) := by decide +kernel
theorem dX4_allMarks_7 : decode cX4_allMarks 7 = .ok (.isub, 1) := by decide +kernel
theorem dX4_allMarks_8 : decode cX4_allMarks 8 = .ok (.ireturn, 1) := by decide +kernel
theorem dX4_toldAt_0 : decode cX4_toldAt 0 = .ok (.aload_n 0, 1) := by decide +kernel
theorem dX4_toldAt_1 : decode cX4_toldAt 1 = .ok (.getfield 24, 3) := by decide +kernel
theorem dX4_toldAt_4 : decode cX4_toldAt 4 = .ok (.iload_n 1, 1) := by decide +kernel
theorem dX4_toldAt_5 : decode cX4_toldAt 5 = .ok (.iaload, 1) := by decide +kernel
theorem dX4_toldAt_6 : decode cX4_toldAt 6 = .ok (.iconst (-1), 1) := by decide +kernel
theorem dX4_toldAt_7 : decode cX4_toldAt 7 = .ok (.if_icmp .ne 8, 3) := by decide +kernel
theorem dX4_toldAt_10 : decode cX4_toldAt 10 = .ok (.bipush (-4), 2) := by decide +kernel
theorem dX4_toldAt_12 : decode cX4_toldAt 12 = .ok (.goto 9, 3) := by decide +kernel
theorem dX4_toldAt_15 : decode cX4_toldAt 15 = .ok (.aload_n 0, 1) := by decide +kernel
theorem dX4_toldAt_16 : decode cX4_toldAt 16 = .ok (.getfield 24, 3) := by decide +kernel
theorem dX4_toldAt_19 : decode cX4_toldAt 19 = .ok (.iload_n 1, 1) := by decide +kernel
theorem dX4_toldAt_20 : decode cX4_toldAt 20 = .ok (.iaload, 1) := by decide +kernel
theorem dX4_toldAt_21 : decode cX4_toldAt 21 = .ok (.ireturn, 1) := by decide +kernel
theorem dX4_addSort_0 : decode cX4_addSort 0 = .ok (.aload_n 0, 1) := by decide +kernel
theorem dX4_addSort_1 : decode cX4_addSort 1 = .ok (.getfield 32, 3) := by decide +kernel
theorem dX4_addSort_4 : decode cX4_addSort 4 = .ok (.iconst 4, 1) := by decide +kernel
theorem dX4_addSort_5 : decode cX4_addSort 5 = .ok (.if_icmp .eq 21, 3) := by decide +kernel
theorem dX4_addSort_8 : decode cX4_addSort 8 = .ok (.aload_n 0, 1) := by decide +kernel
theorem dX4_addSort_9 : decode cX4_addSort 9 = .ok (.getfield 36, 3) := by decide +kernel
theorem dX4_addSort_12 : decode cX4_addSort 12 = .ok (.ifCond .gt 14, 3) := by decide +kernel
theorem dX4_addSort_15 : decode cX4_addSort 15 = .ok (.iload_n 1, 1) := by decide +kernel
theorem dX4_addSort_16 : decode cX4_addSort 16 = .ok (.iconst 1, 1) := by decide +kernel
theorem dX4_addSort_17 : decode cX4_addSort 17 = .ok (.if_icmp .lt 9, 3) := by decide +kernel
theorem dX4_addSort_20 : decode cX4_addSort 20 = .ok (.iload_n 1, 1) := by decide +kernel
theorem dX4_addSort_21 : decode cX4_addSort 21 = .ok (.bipush 100, 2) := by decide +kernel
theorem dX4_addSort_23 : decode cX4_addSort 23 = .ok (.if_icmp .le 5, 3) := by decide +kernel
theorem dX4_addSort_26 : decode cX4_addSort 26 = .ok (.iconst 0, 1) := by decide +kernel
theorem dX4_addSort_27 : decode cX4_addSort 27 = .ok (.ireturn, 1) := by decide +kernel
theorem dX4_addSort_28 : decode cX4_addSort 28 = .ok (.aload_n 0, 1) := by decide +kernel
theorem dX4_addSort_29 : decode cX4_addSort 29 = .ok (.getfield 9, 3) := by decide +kernel
theorem dX4_addSort_32 : decode cX4_addSort 32 = .ok (.aload_n 0, 1) := by decide +kernel
theorem dX4_addSort_33 : decode cX4_addSort 33 = .ok (.getfield 32, 3) := by decide +kernel
theorem dX4_addSort_36 : decode cX4_addSort 36 = .ok (.iload_n 1, 1) := by decide +kernel
theorem dX4_addSort_37 : decode cX4_addSort 37 = .ok (.iastore, 1) := by decide +kernel
theorem dX4_addSort_38 : decode cX4_addSort 38 = .ok (.aload_n 0, 1) := by decide +kernel
theorem dX4_addSort_39 : decode cX4_addSort 39 = .ok (.getfield 15, 3) := by decide +kernel
theorem dX4_addSort_42 : decode cX4_addSort 42 = .ok (.aload_n 0, 1) := by decide +kernel
theorem dX4_addSort_43 : decode cX4_addSort 43 = .ok (.getfield 32, 3) := by decide +kernel
theorem dX4_addSort_46 : decode cX4_addSort 46 = .ok (.iload_n 2, 1) := by decide +kernel
theorem dX4_addSort_47 : decode cX4_addSort 47 = .ok (.iastore, 1) := by decide +kernel
theorem dX4_addSort_48 : decode cX4_addSort 48 = .ok (.aload_n 0, 1) := by decide +kernel
theorem dX4_addSort_49 : decode cX4_addSort 49 = .ok (.getfield 18, 3) := by decide +kernel
theorem dX4_addSort_52 : decode cX4_addSort 52 = .ok (.aload_n 0, 1) := by decide +kernel
theorem dX4_addSort_53 : decode cX4_addSort 53 = .ok (.getfield 32, 3) := by decide +kernel
theorem dX4_addSort_56 : decode cX4_addSort 56 = .ok (.iload_n 3, 1) := by decide +kernel
theorem dX4_addSort_57 : decode cX4_addSort 57 = .ok (.iastore, 1) := by decide +kernel
theorem dX4_addSort_58 : decode cX4_addSort 58 = .ok (.aload_n 0, 1) := by decide +kernel
theorem dX4_addSort_59 : decode cX4_addSort 59 = .ok (.dup, 1) := by decide +kernel
theorem dX4_addSort_60 : decode cX4_addSort 60 = .ok (.getfield 32, 3) := by decide +kernel
theorem dX4_addSort_63 : decode cX4_addSort 63 = .ok (.iconst 1, 1) := by decide +kernel
theorem dX4_addSort_64 : decode cX4_addSort 64 = .ok (.iadd, 1) := by decide +kernel
theorem dX4_addSort_65 : decode cX4_addSort 65 = .ok (.putfield 32, 3) := by decide +kernel
theorem dX4_addSort_68 : decode cX4_addSort 68 = .ok (.iconst 1, 1) := by decide +kernel
theorem dX4_addSort_69 : decode cX4_addSort 69 = .ok (.ireturn, 1) := by decide +kernel
theorem dX4_addMark_0 : decode cX4_addMark 0 = .ok (.aload_n 0, 1) := by decide +kernel
theorem dX4_addMark_1 : decode cX4_addMark 1 = .ok (.getfield 36, 3) := by decide +kernel
theorem dX4_addMark_4 : decode cX4_addMark 4 = .ok (.iconst 4, 1) := by decide +kernel
theorem dX4_addMark_5 : decode cX4_addMark 5 = .ok (.if_icmp .eq 21, 3) := by decide +kernel
theorem dX4_addMark_8 : decode cX4_addMark 8 = .ok (.aload_n 1, 1) := by decide +kernel
theorem dX4_addMark_9 : decode cX4_addMark 9 = .ok (.iconst 0, 1) := by decide +kernel
theorem dX4_addMark_10 : decode cX4_addMark 10 = .ok (.iaload, 1) := by decide +kernel
theorem dX4_addMark_11 : decode cX4_addMark 11 = .ok (.bipush 99, 2) := by decide +kernel
theorem dX4_addMark_13 : decode cX4_addMark 13 = .ok (.if_icmp .gt 13, 3) := by decide +kernel
theorem dX4_addMark_16 : decode cX4_addMark 16 = .ok (.iload_n 2, 1) := by decide +kernel
theorem dX4_addMark_17 : decode cX4_addMark 17 = .ok (.iconst 1, 1) := by decide +kernel
theorem dX4_addMark_18 : decode cX4_addMark 18 = .ok (.aload_n 0, 1) := by decide +kernel
theorem dX4_addMark_19 : decode cX4_addMark 19 = .ok (.getfield 32, 3) := by decide +kernel
theorem dX4_addMark_22 : decode cX4_addMark 22 = .ok (.iadd, 1) := by decide +kernel
theorem dX4_addMark_23 : decode cX4_addMark 23 = .ok (.if_icmp .eq 5, 3) := by decide +kernel
theorem dX4_addMark_26 : decode cX4_addMark 26 = .ok (.iconst 0, 1) := by decide +kernel
theorem dX4_addMark_27 : decode cX4_addMark 27 = .ok (.ireturn, 1) := by decide +kernel
theorem dX4_addMark_28 : decode cX4_addMark 28 = .ok (.aload_n 0, 1) := by decide +kernel
theorem dX4_addMark_29 : decode cX4_addMark 29 = .ok (.getfield 21, 3) := by decide +kernel
theorem dX4_addMark_32 : decode cX4_addMark 32 = .ok (.aload_n 0, 1) := by decide +kernel
theorem dX4_addMark_33 : decode cX4_addMark 33 = .ok (.getfield 36, 3) := by decide +kernel
theorem dX4_addMark_36 : decode cX4_addMark 36 = .ok (.aload_n 1, 1) := by decide +kernel
theorem dX4_addMark_37 : decode cX4_addMark 37 = .ok (.iconst 0, 1) := by decide +kernel
theorem dX4_addMark_38 : decode cX4_addMark 38 = .ok (.iaload, 1) := by decide +kernel
theorem dX4_addMark_39 : decode cX4_addMark 39 = .ok (.iastore, 1) := by decide +kernel
theorem dX4_addMark_40 : decode cX4_addMark 40 = .ok (.aload_n 0, 1) := by decide +kernel
theorem dX4_addMark_41 : decode cX4_addMark 41 = .ok (.getfield 24, 3) := by decide +kernel
theorem dX4_addMark_44 : decode cX4_addMark 44 = .ok (.aload_n 0, 1) := by decide +kernel
theorem dX4_addMark_45 : decode cX4_addMark 45 = .ok (.getfield 36, 3) := by decide +kernel
theorem dX4_addMark_48 : decode cX4_addMark 48 = .ok (.iconst (-1), 1) := by decide +kernel
theorem dX4_addMark_49 : decode cX4_addMark 49 = .ok (.iastore, 1) := by decide +kernel
theorem dX4_addMark_50 : decode cX4_addMark 50 = .ok (.iconst 0, 1) := by decide +kernel
theorem dX4_addMark_51 : decode cX4_addMark 51 = .ok (.istore_n 3, 1) := by decide +kernel
theorem dX4_addMark_52 : decode cX4_addMark 52 = .ok (.iload_n 3, 1) := by decide +kernel
theorem dX4_addMark_53 : decode cX4_addMark 53 = .ok (.aload_n 0, 1) := by decide +kernel
theorem dX4_addMark_54 : decode cX4_addMark 54 = .ok (.getfield 32, 3) := by decide +kernel
theorem dX4_addMark_57 : decode cX4_addMark 57 = .ok (.if_icmp .ge 25, 3) := by decide +kernel
theorem dX4_addMark_60 : decode cX4_addMark 60 = .ok (.aload_n 0, 1) := by decide +kernel
theorem dX4_addMark_61 : decode cX4_addMark 61 = .ok (.getfield 29, 3) := by decide +kernel
theorem dX4_addMark_64 : decode cX4_addMark 64 = .ok (.aload_n 0, 1) := by decide +kernel
theorem dX4_addMark_65 : decode cX4_addMark 65 = .ok (.getfield 36, 3) := by decide +kernel
theorem dX4_addMark_68 : decode cX4_addMark 68 = .ok (.aaload, 1) := by decide +kernel
theorem dX4_addMark_69 : decode cX4_addMark 69 = .ok (.iload_n 3, 1) := by decide +kernel
theorem dX4_addMark_70 : decode cX4_addMark 70 = .ok (.aload_n 1, 1) := by decide +kernel
theorem dX4_addMark_71 : decode cX4_addMark 71 = .ok (.iconst 1, 1) := by decide +kernel
theorem dX4_addMark_72 : decode cX4_addMark 72 = .ok (.iload_n 3, 1) := by decide +kernel
theorem dX4_addMark_73 : decode cX4_addMark 73 = .ok (.iadd, 1) := by decide +kernel
theorem dX4_addMark_74 : decode cX4_addMark 74 = .ok (.iaload, 1) := by decide +kernel
theorem dX4_addMark_75 : decode cX4_addMark 75 = .ok (.iastore, 1) := by decide +kernel
theorem dX4_addMark_76 : decode cX4_addMark 76 = .ok (.iinc 3 1, 3) := by decide +kernel
theorem dX4_addMark_79 : decode cX4_addMark 79 = .ok (.goto (-27), 3) := by decide +kernel
theorem dX4_addMark_82 : decode cX4_addMark 82 = .ok (.aload_n 0, 1) := by decide +kernel
theorem dX4_addMark_83 : decode cX4_addMark 83 = .ok (.dup, 1) := by decide +kernel
theorem dX4_addMark_84 : decode cX4_addMark 84 = .ok (.getfield 36, 3) := by decide +kernel
theorem dX4_addMark_87 : decode cX4_addMark 87 = .ok (.iconst 1, 1) := by decide +kernel
theorem dX4_addMark_88 : decode cX4_addMark 88 = .ok (.iadd, 1) := by decide +kernel
theorem dX4_addMark_89 : decode cX4_addMark 89 = .ok (.putfield 36, 3) := by decide +kernel
theorem dX4_addMark_92 : decode cX4_addMark 92 = .ok (.iconst 1, 1) := by decide +kernel
theorem dX4_addMark_93 : decode cX4_addMark 93 = .ok (.ireturn, 1) := by decide +kernel
set_option maxRecDepth 20000 in
theorem ggX4_tell_X4_hasMark : GoodIn wsX4_tell wsX4_hasMark := goodIn_r _ [6, 7, 13, 14, 15, 16, 17, 18, 19, 20, 21] (by decide +kernel) (by decide +kernel)
set_option maxRecDepth 20000 in
theorem gX4_tell_X4_hasMark : GoodIn wsX4_tell (wsV RX4 48 RX4 yX4_hasMark wsX4_hasMark) := goodIn_app (goodIn_of _ (by decide +kernel)) ggX4_tell_X4_hasMark
set_option maxRecDepth 20000 in
theorem ggX4_tell_X4_hasSort : GoodIn wsX4_tell wsX4_hasSort := goodIn_r _ [11, 12, 13, 14, 15, 16, 17, 18, 19, 20, 21] (by decide +kernel) (by decide +kernel)
set_option maxRecDepth 20000 in
theorem gX4_tell_X4_hasSort : GoodIn wsX4_tell (wsV RX4 52 RX4 yX4_hasSort wsX4_hasSort) := goodIn_app (goodIn_of _ (by decide +kernel)) ggX4_tell_X4_hasSort
theorem dX4_tell_0 : decode cX4_tell 0 = .ok (.aload_n 0, 1) := by decide +kernel
theorem dX4_tell_1 : decode cX4_tell 1 = .ok (.iload_n 1, 1) := by decide +kernel
theorem dX4_tell_2 : decode cX4_tell 2 = .ok (.invokevirtual 48, 3) := by decide +kernel
theorem dX4_tell_5 : decode cX4_tell 5 = .ok (.ifCond .eq 11, 3) := by decide +kernel
theorem dX4_tell_8 : decode cX4_tell 8 = .ok (.aload_n 0, 1) := by decide +kernel
theorem dX4_tell_9 : decode cX4_tell 9 = .ok (.iload_n 2, 1) := by decide +kernel
theorem dX4_tell_10 : decode cX4_tell 10 = .ok (.invokevirtual 52, 3) := by decide +kernel
theorem dX4_tell_13 : decode cX4_tell 13 = .ok (.ifCond .ne 5, 3) := by decide +kernel
theorem dX4_tell_16 : decode cX4_tell 16 = .ok (.iconst 0, 1) := by decide +kernel
theorem dX4_tell_17 : decode cX4_tell 17 = .ok (.ireturn, 1) := by decide +kernel
theorem dX4_tell_18 : decode cX4_tell 18 = .ok (.aload_n 0, 1) := by decide +kernel
theorem dX4_tell_19 : decode cX4_tell 19 = .ok (.getfield 24, 3) := by decide +kernel
theorem dX4_tell_22 : decode cX4_tell 22 = .ok (.iload_n 1, 1) := by decide +kernel
theorem dX4_tell_23 : decode cX4_tell 23 = .ok (.iload_n 2, 1) := by decide +kernel
theorem dX4_tell_24 : decode cX4_tell 24 = .ok (.iastore, 1) := by decide +kernel
theorem dX4_tell_25 : decode cX4_tell 25 = .ok (.iconst 1, 1) := by decide +kernel
theorem dX4_tell_26 : decode cX4_tell 26 = .ok (.ireturn, 1) := by decide +kernel
theorem dX4_join_0 : decode cX4_join 0 = .ok (.aload_n 0, 1) := by decide +kernel
theorem dX4_join_1 : decode cX4_join 1 = .ok (.getfield 36, 3) := by decide +kernel
theorem dX4_join_4 : decode cX4_join 4 = .ok (.iconst 4, 1) := by decide +kernel
theorem dX4_join_5 : decode cX4_join 5 = .ok (.if_icmp .ne 6, 3) := by decide +kernel
theorem dX4_join_8 : decode cX4_join 8 = .ok (.bipush (-2), 2) := by decide +kernel
theorem dX4_join_10 : decode cX4_join 10 = .ok (.ireturn, 1) := by decide +kernel
theorem dX4_join_11 : decode cX4_join 11 = .ok (.aload_n 0, 1) := by decide +kernel
theorem dX4_join_12 : decode cX4_join 12 = .ok (.getfield 21, 3) := by decide +kernel
theorem dX4_join_15 : decode cX4_join 15 = .ok (.aload_n 0, 1) := by decide +kernel
theorem dX4_join_16 : decode cX4_join 16 = .ok (.getfield 36, 3) := by decide +kernel
theorem dX4_join_19 : decode cX4_join 19 = .ok (.bipush 99, 2) := by decide +kernel
theorem dX4_join_21 : decode cX4_join 21 = .ok (.aload_n 0, 1) := by decide +kernel
theorem dX4_join_22 : decode cX4_join 22 = .ok (.getfield 21, 3) := by decide +kernel
theorem dX4_join_25 : decode cX4_join 25 = .ok (.iload_n 1, 1) := by decide +kernel
theorem dX4_join_26 : decode cX4_join 26 = .ok (.iaload, 1) := by decide +kernel
theorem dX4_join_27 : decode cX4_join 27 = .ok (.aload_n 0, 1) := by decide +kernel
theorem dX4_join_28 : decode cX4_join 28 = .ok (.getfield 21, 3) := by decide +kernel
theorem dX4_join_31 : decode cX4_join 31 = .ok (.iload_n 2, 1) := by decide +kernel
theorem dX4_join_32 : decode cX4_join 32 = .ok (.iaload, 1) := by decide +kernel
theorem dX4_join_33 : decode cX4_join 33 = .ok (.iadd, 1) := by decide +kernel
theorem dX4_join_34 : decode cX4_join 34 = .ok (.invokestatic 55, 3) := by decide +kernel
theorem dX4_join_37 : decode cX4_join 37 = .ok (.iastore, 1) := by decide +kernel
theorem dX4_join_38 : decode cX4_join 38 = .ok (.aload_n 0, 1) := by decide +kernel
theorem dX4_join_39 : decode cX4_join 39 = .ok (.getfield 24, 3) := by decide +kernel
theorem dX4_join_42 : decode cX4_join 42 = .ok (.aload_n 0, 1) := by decide +kernel
theorem dX4_join_43 : decode cX4_join 43 = .ok (.getfield 36, 3) := by decide +kernel
theorem dX4_join_46 : decode cX4_join 46 = .ok (.iconst (-1), 1) := by decide +kernel
theorem dX4_join_47 : decode cX4_join 47 = .ok (.iastore, 1) := by decide +kernel
theorem dX4_join_48 : decode cX4_join 48 = .ok (.iconst 0, 1) := by decide +kernel
theorem dX4_join_49 : decode cX4_join 49 = .ok (.istore_n 3, 1) := by decide +kernel
theorem dX4_join_50 : decode cX4_join 50 = .ok (.iload_n 3, 1) := by decide +kernel
theorem dX4_join_51 : decode cX4_join 51 = .ok (.aload_n 0, 1) := by decide +kernel
theorem dX4_join_52 : decode cX4_join 52 = .ok (.getfield 32, 3) := by decide +kernel
theorem dX4_join_55 : decode cX4_join 55 = .ok (.if_icmp .ge 43, 3) := by decide +kernel
theorem dX4_join_58 : decode cX4_join 58 = .ok (.aload_n 0, 1) := by decide +kernel
theorem dX4_join_59 : decode cX4_join 59 = .ok (.getfield 29, 3) := by decide +kernel
theorem dX4_join_62 : decode cX4_join 62 = .ok (.aload_n 0, 1) := by decide +kernel
theorem dX4_join_63 : decode cX4_join 63 = .ok (.getfield 36, 3) := by decide +kernel
theorem dX4_join_66 : decode cX4_join 66 = .ok (.aaload, 1) := by decide +kernel
theorem dX4_join_67 : decode cX4_join 67 = .ok (.iload_n 3, 1) := by decide +kernel
theorem dX4_join_68 : decode cX4_join 68 = .ok (.sipush 999, 3) := by decide +kernel
theorem dX4_join_71 : decode cX4_join 71 = .ok (.aload_n 0, 1) := by decide +kernel
theorem dX4_join_72 : decode cX4_join 72 = .ok (.getfield 29, 3) := by decide +kernel
theorem dX4_join_75 : decode cX4_join 75 = .ok (.iload_n 1, 1) := by decide +kernel
theorem dX4_join_76 : decode cX4_join 76 = .ok (.aaload, 1) := by decide +kernel
theorem dX4_join_77 : decode cX4_join 77 = .ok (.iload_n 3, 1) := by decide +kernel
theorem dX4_join_78 : decode cX4_join 78 = .ok (.iaload, 1) := by decide +kernel
theorem dX4_join_79 : decode cX4_join 79 = .ok (.aload_n 0, 1) := by decide +kernel
theorem dX4_join_80 : decode cX4_join 80 = .ok (.getfield 29, 3) := by decide +kernel
theorem dX4_join_83 : decode cX4_join 83 = .ok (.iload_n 2, 1) := by decide +kernel
theorem dX4_join_84 : decode cX4_join 84 = .ok (.aaload, 1) := by decide +kernel
theorem dX4_join_85 : decode cX4_join 85 = .ok (.iload_n 3, 1) := by decide +kernel
theorem dX4_join_86 : decode cX4_join 86 = .ok (.iaload, 1) := by decide +kernel
theorem dX4_join_87 : decode cX4_join 87 = .ok (.iadd, 1) := by decide +kernel
theorem dX4_join_88 : decode cX4_join 88 = .ok (.invokestatic 55, 3) := by decide +kernel
theorem dX4_join_91 : decode cX4_join 91 = .ok (.iastore, 1) := by decide +kernel
theorem dX4_join_92 : decode cX4_join 92 = .ok (.iinc 3 1, 3) := by decide +kernel
theorem dX4_join_95 : decode cX4_join 95 = .ok (.goto (-45), 3) := by decide +kernel
theorem dX4_join_98 : decode cX4_join 98 = .ok (.aload_n 0, 1) := by decide +kernel
theorem dX4_join_99 : decode cX4_join 99 = .ok (.dup, 1) := by decide +kernel
theorem dX4_join_100 : decode cX4_join 100 = .ok (.getfield 36, 3) := by decide +kernel
theorem dX4_join_103 : decode cX4_join 103 = .ok (.iconst 1, 1) := by decide +kernel
theorem dX4_join_104 : decode cX4_join 104 = .ok (.iadd, 1) := by decide +kernel
theorem dX4_join_105 : decode cX4_join 105 = .ok (.putfield 36, 3) := by decide +kernel
theorem dX4_join_108 : decode cX4_join 108 = .ok (.aload_n 0, 1) := by decide +kernel
theorem dX4_join_109 : decode cX4_join 109 = .ok (.getfield 36, 3) := by decide +kernel
theorem dX4_join_112 : decode cX4_join 112 = .ok (.iconst 1, 1) := by decide +kernel
theorem dX4_join_113 : decode cX4_join 113 = .ok (.isub, 1) := by decide +kernel
theorem dX4_join_114 : decode cX4_join 114 = .ok (.ireturn, 1) := by decide +kernel
theorem dX4_isWhole_0 : decode cX4_isWhole 0 = .ok (.iconst 0, 1) := by decide +kernel
theorem dX4_isWhole_1 : decode cX4_isWhole 1 = .ok (.istore_n 1, 1) := by decide +kernel
theorem dX4_isWhole_2 : decode cX4_isWhole 2 = .ok (.iconst 0, 1) := by decide +kernel
theorem dX4_isWhole_3 : decode cX4_isWhole 3 = .ok (.istore_n 2, 1) := by decide +kernel
theorem dX4_isWhole_4 : decode cX4_isWhole 4 = .ok (.iload_n 2, 1) := by decide +kernel
theorem dX4_isWhole_5 : decode cX4_isWhole 5 = .ok (.aload_n 0, 1) := by decide +kernel
theorem dX4_isWhole_6 : decode cX4_isWhole 6 = .ok (.getfield 32, 3) := by decide +kernel
theorem dX4_isWhole_9 : decode cX4_isWhole 9 = .ok (.if_icmp .ge 18, 3) := by decide +kernel
theorem dX4_isWhole_12 : decode cX4_isWhole 12 = .ok (.iload_n 1, 1) := by decide +kernel
theorem dX4_isWhole_13 : decode cX4_isWhole 13 = .ok (.aload_n 0, 1) := by decide +kernel
theorem dX4_isWhole_14 : decode cX4_isWhole 14 = .ok (.getfield 9, 3) := by decide +kernel
theorem dX4_isWhole_17 : decode cX4_isWhole 17 = .ok (.iload_n 2, 1) := by decide +kernel
theorem dX4_isWhole_18 : decode cX4_isWhole 18 = .ok (.iaload, 1) := by decide +kernel
theorem dX4_isWhole_19 : decode cX4_isWhole 19 = .ok (.iadd, 1) := by decide +kernel
theorem dX4_isWhole_20 : decode cX4_isWhole 20 = .ok (.istore_n 1, 1) := by decide +kernel
theorem dX4_isWhole_21 : decode cX4_isWhole 21 = .ok (.iinc 2 1, 3) := by decide +kernel
theorem dX4_isWhole_24 : decode cX4_isWhole 24 = .ok (.goto (-20), 3) := by decide +kernel
theorem dX4_isWhole_27 : decode cX4_isWhole 27 = .ok (.iload_n 1, 1) := by decide +kernel
theorem dX4_isWhole_28 : decode cX4_isWhole 28 = .ok (.bipush 100, 2) := by decide +kernel
theorem dX4_isWhole_30 : decode cX4_isWhole 30 = .ok (.if_icmp .ne 14, 3) := by decide +kernel
theorem dX4_isWhole_33 : decode cX4_isWhole 33 = .ok (.aload_n 0, 1) := by decide +kernel
theorem dX4_isWhole_34 : decode cX4_isWhole 34 = .ok (.getfield 36, 3) := by decide +kernel
theorem dX4_isWhole_37 : decode cX4_isWhole 37 = .ok (.ifCond .le 7, 3) := by decide +kernel
theorem dX4_isWhole_40 : decode cX4_isWhole 40 = .ok (.iconst 1, 1) := by decide +kernel
theorem dX4_isWhole_41 : decode cX4_isWhole 41 = .ok (.goto 4, 3) := by decide +kernel
theorem dX4_isWhole_44 : decode cX4_isWhole 44 = .ok (.iconst 0, 1) := by decide +kernel
theorem dX4_isWhole_45 : decode cX4_isWhole 45 = .ok (.ireturn, 1) := by decide +kernel
theorem dX4_moveChance_0 : decode cX4_moveChance 0 = .ok (.aload_n 0, 1) := by decide +kernel
theorem dX4_moveChance_1 : decode cX4_moveChance 1 = .ok (.getfield 9, 3) := by decide +kernel
theorem dX4_moveChance_4 : decode cX4_moveChance 4 = .ok (.iload_n 1, 1) := by decide +kernel
theorem dX4_moveChance_5 : decode cX4_moveChance 5 = .ok (.dup2, 1) := by decide +kernel
theorem dX4_moveChance_6 : decode cX4_moveChance 6 = .ok (.iaload, 1) := by decide +kernel
theorem dX4_moveChance_7 : decode cX4_moveChance 7 = .ok (.iload_n 3, 1) := by decide +kernel
theorem dX4_moveChance_8 : decode cX4_moveChance 8 = .ok (.isub, 1) := by decide +kernel
theorem dX4_moveChance_9 : decode cX4_moveChance 9 = .ok (.iastore, 1) := by decide +kernel
theorem dX4_moveChance_10 : decode cX4_moveChance 10 = .ok (.aload_n 0, 1) := by decide +kernel
theorem dX4_moveChance_11 : decode cX4_moveChance 11 = .ok (.getfield 9, 3) := by decide +kernel
theorem dX4_moveChance_14 : decode cX4_moveChance 14 = .ok (.iload_n 2, 1) := by decide +kernel
theorem dX4_moveChance_15 : decode cX4_moveChance 15 = .ok (.dup2, 1) := by decide +kernel
theorem dX4_moveChance_16 : decode cX4_moveChance 16 = .ok (.iaload, 1) := by decide +kernel
theorem dX4_moveChance_17 : decode cX4_moveChance 17 = .ok (.iload_n 3, 1) := by decide +kernel
theorem dX4_moveChance_18 : decode cX4_moveChance 18 = .ok (.iadd, 1) := by decide +kernel
theorem dX4_moveChance_19 : decode cX4_moveChance 19 = .ok (.iastore, 1) := by decide +kernel
theorem dX4_moveChance_20 : decode cX4_moveChance 20 = .ok (.return_, 1) := by decide +kernel
theorem dX4_sortDrawn_0 : decode cX4_sortDrawn 0 = .ok (.iconst 0, 1) := by decide +kernel
theorem dX4_sortDrawn_1 : decode cX4_sortDrawn 1 = .ok (.istore_n 2, 1) := by decide +kernel
theorem dX4_sortDrawn_2 : decode cX4_sortDrawn 2 = .ok (.iconst 0, 1) := by decide +kernel
theorem dX4_sortDrawn_3 : decode cX4_sortDrawn 3 = .ok (.istore_n 3, 1) := by decide +kernel
theorem dX4_sortDrawn_4 : decode cX4_sortDrawn 4 = .ok (.iload_n 3, 1) := by decide +kernel
theorem dX4_sortDrawn_5 : decode cX4_sortDrawn 5 = .ok (.aload_n 0, 1) := by decide +kernel
theorem dX4_sortDrawn_6 : decode cX4_sortDrawn 6 = .ok (.getfield 32, 3) := by decide +kernel
theorem dX4_sortDrawn_9 : decode cX4_sortDrawn 9 = .ok (.if_icmp .ge 25, 3) := by decide +kernel
theorem dX4_sortDrawn_12 : decode cX4_sortDrawn 12 = .ok (.iload_n 2, 1) := by decide +kernel
theorem dX4_sortDrawn_13 : decode cX4_sortDrawn 13 = .ok (.aload_n 0, 1) := by decide +kernel
theorem dX4_sortDrawn_14 : decode cX4_sortDrawn 14 = .ok (.getfield 9, 3) := by decide +kernel
theorem dX4_sortDrawn_17 : decode cX4_sortDrawn 17 = .ok (.iload_n 3, 1) := by decide +kernel
theorem dX4_sortDrawn_18 : decode cX4_sortDrawn 18 = .ok (.iaload, 1) := by decide +kernel
theorem dX4_sortDrawn_19 : decode cX4_sortDrawn 19 = .ok (.iadd, 1) := by decide +kernel
theorem dX4_sortDrawn_20 : decode cX4_sortDrawn 20 = .ok (.istore_n 2, 1) := by decide +kernel
theorem dX4_sortDrawn_21 : decode cX4_sortDrawn 21 = .ok (.iload_n 1, 1) := by decide +kernel
theorem dX4_sortDrawn_22 : decode cX4_sortDrawn 22 = .ok (.iload_n 2, 1) := by decide +kernel
theorem dX4_sortDrawn_23 : decode cX4_sortDrawn 23 = .ok (.if_icmp .ge 5, 3) := by decide +kernel
theorem dX4_sortDrawn_26 : decode cX4_sortDrawn 26 = .ok (.iload_n 3, 1) := by decide +kernel
theorem dX4_sortDrawn_27 : decode cX4_sortDrawn 27 = .ok (.ireturn, 1) := by decide +kernel
theorem dX4_sortDrawn_28 : decode cX4_sortDrawn 28 = .ok (.iinc 3 1, 3) := by decide +kernel
theorem dX4_sortDrawn_31 : decode cX4_sortDrawn 31 = .ok (.goto (-27), 3) := by decide +kernel
theorem dX4_sortDrawn_34 : decode cX4_sortDrawn 34 = .ok (.iconst 0, 1) := by decide +kernel
theorem dX4_sortDrawn_35 : decode cX4_sortDrawn 35 = .ok (.ireturn, 1) := by decide +kernel
theorem dX4_leastWorth_0 : decode cX4_leastWorth 0 = .ok (.sipush 999, 3) := by decide +kernel
theorem dX4_leastWorth_3 : decode cX4_leastWorth 3 = .ok (.istore_n 1, 1) := by decide +kernel
theorem dX4_leastWorth_4 : decode cX4_leastWorth 4 = .ok (.iconst 0, 1) := by decide +kernel
theorem dX4_leastWorth_5 : decode cX4_leastWorth 5 = .ok (.istore_n 2, 1) := by decide +kernel
theorem dX4_leastWorth_6 : decode cX4_leastWorth 6 = .ok (.iload_n 2, 1) := by decide +kernel
theorem dX4_leastWorth_7 : decode cX4_leastWorth 7 = .ok (.aload_n 0, 1) := by decide +kernel
theorem dX4_leastWorth_8 : decode cX4_leastWorth 8 = .ok (.getfield 32, 3) := by decide +kernel
theorem dX4_leastWorth_11 : decode cX4_leastWorth 11 = .ok (.if_icmp .ge 20, 3) := by decide +kernel
theorem dX4_leastWorth_14 : decode cX4_leastWorth 14 = .ok (.iload_n 1, 1) := by decide +kernel
theorem dX4_leastWorth_15 : decode cX4_leastWorth 15 = .ok (.aload_n 0, 1) := by decide +kernel
theorem dX4_leastWorth_16 : decode cX4_leastWorth 16 = .ok (.getfield 15, 3) := by decide +kernel
theorem dX4_leastWorth_19 : decode cX4_leastWorth 19 = .ok (.iload_n 2, 1) := by decide +kernel
theorem dX4_leastWorth_20 : decode cX4_leastWorth 20 = .ok (.iaload, 1) := by decide +kernel
theorem dX4_leastWorth_21 : decode cX4_leastWorth 21 = .ok (.invokestatic 55, 3) := by decide +kernel
theorem dX4_leastWorth_24 : decode cX4_leastWorth 24 = .ok (.istore_n 1, 1) := by decide +kernel
theorem dX4_leastWorth_25 : decode cX4_leastWorth 25 = .ok (.iinc 2 1, 3) := by decide +kernel
theorem dX4_leastWorth_28 : decode cX4_leastWorth 28 = .ok (.goto (-22), 3) := by decide +kernel
theorem dX4_leastWorth_31 : decode cX4_leastWorth 31 = .ok (.iload_n 1, 1) := by decide +kernel
theorem dX4_leastWorth_32 : decode cX4_leastWorth 32 = .ok (.ireturn, 1) := by decide +kernel
theorem dX4_mostWorth_0 : decode cX4_mostWorth 0 = .ok (.iconst 0, 1) := by decide +kernel
theorem dX4_mostWorth_1 : decode cX4_mostWorth 1 = .ok (.istore_n 1, 1) := by decide +kernel
theorem dX4_mostWorth_2 : decode cX4_mostWorth 2 = .ok (.iconst 0, 1) := by decide +kernel
theorem dX4_mostWorth_3 : decode cX4_mostWorth 3 = .ok (.istore_n 2, 1) := by decide +kernel
theorem dX4_mostWorth_4 : decode cX4_mostWorth 4 = .ok (.iload_n 2, 1) := by decide +kernel
theorem dX4_mostWorth_5 : decode cX4_mostWorth 5 = .ok (.aload_n 0, 1) := by decide +kernel
theorem dX4_mostWorth_6 : decode cX4_mostWorth 6 = .ok (.getfield 32, 3) := by decide +kernel
theorem dX4_mostWorth_9 : decode cX4_mostWorth 9 = .ok (.if_icmp .ge 20, 3) := by decide +kernel
theorem dX4_mostWorth_12 : decode cX4_mostWorth 12 = .ok (.iload_n 1, 1) := by decide +kernel
theorem dX4_mostWorth_13 : decode cX4_mostWorth 13 = .ok (.aload_n 0, 1) := by decide +kernel
theorem dX4_mostWorth_14 : decode cX4_mostWorth 14 = .ok (.getfield 15, 3) := by decide +kernel
theorem dX4_mostWorth_17 : decode cX4_mostWorth 17 = .ok (.iload_n 2, 1) := by decide +kernel
theorem dX4_mostWorth_18 : decode cX4_mostWorth 18 = .ok (.iaload, 1) := by decide +kernel
theorem dX4_mostWorth_19 : decode cX4_mostWorth 19 = .ok (.invokestatic 61, 3) := by decide +kernel
theorem dX4_mostWorth_22 : decode cX4_mostWorth 22 = .ok (.istore_n 1, 1) := by decide +kernel
theorem dX4_mostWorth_23 : decode cX4_mostWorth 23 = .ok (.iinc 2 1, 3) := by decide +kernel
theorem dX4_mostWorth_26 : decode cX4_mostWorth 26 = .ok (.goto (-22), 3) := by decide +kernel
theorem dX4_mostWorth_29 : decode cX4_mostWorth 29 = .ok (.iload_n 1, 1) := by decide +kernel
theorem dX4_mostWorth_30 : decode cX4_mostWorth 30 = .ok (.ireturn, 1) := by decide +kernel
theorem dX4_meanWorth_0 : decode cX4_meanWorth 0 = .ok (.iconst 0, 1) := by decide +kernel
theorem dX4_meanWorth_1 : decode cX4_meanWorth 1 = .ok (.istore_n 1, 1) := by decide +kernel
theorem dX4_meanWorth_2 : decode cX4_meanWorth 2 = .ok (.iconst 0, 1) := by decide +kernel
theorem dX4_meanWorth_3 : decode cX4_meanWorth 3 = .ok (.istore_n 2, 1) := by decide +kernel
theorem dX4_meanWorth_4 : decode cX4_meanWorth 4 = .ok (.iload_n 2, 1) := by decide +kernel
theorem dX4_meanWorth_5 : decode cX4_meanWorth 5 = .ok (.aload_n 0, 1) := by decide +kernel
theorem dX4_meanWorth_6 : decode cX4_meanWorth 6 = .ok (.getfield 32, 3) := by decide +kernel
theorem dX4_meanWorth_9 : decode cX4_meanWorth 9 = .ok (.if_icmp .ge 25, 3) := by decide +kernel
theorem dX4_meanWorth_12 : decode cX4_meanWorth 12 = .ok (.iload_n 1, 1) := by decide +kernel
theorem dX4_meanWorth_13 : decode cX4_meanWorth 13 = .ok (.aload_n 0, 1) := by decide +kernel
theorem dX4_meanWorth_14 : decode cX4_meanWorth 14 = .ok (.getfield 9, 3) := by decide +kernel
theorem dX4_meanWorth_17 : decode cX4_meanWorth 17 = .ok (.iload_n 2, 1) := by decide +kernel
theorem dX4_meanWorth_18 : decode cX4_meanWorth 18 = .ok (.iaload, 1) := by decide +kernel
theorem dX4_meanWorth_19 : decode cX4_meanWorth 19 = .ok (.aload_n 0, 1) := by decide +kernel
theorem dX4_meanWorth_20 : decode cX4_meanWorth 20 = .ok (.getfield 15, 3) := by decide +kernel
theorem dX4_meanWorth_23 : decode cX4_meanWorth 23 = .ok (.iload_n 2, 1) := by decide +kernel
theorem dX4_meanWorth_24 : decode cX4_meanWorth 24 = .ok (.iaload, 1) := by decide +kernel
theorem dX4_meanWorth_25 : decode cX4_meanWorth 25 = .ok (.imul, 1) := by decide +kernel
theorem dX4_meanWorth_26 : decode cX4_meanWorth 26 = .ok (.iadd, 1) := by decide +kernel
theorem dX4_meanWorth_27 : decode cX4_meanWorth 27 = .ok (.istore_n 1, 1) := by decide +kernel
theorem dX4_meanWorth_28 : decode cX4_meanWorth 28 = .ok (.iinc 2 1, 3) := by decide +kernel
theorem dX4_meanWorth_31 : decode cX4_meanWorth 31 = .ok (.goto (-27), 3) := by decide +kernel
theorem dX4_meanWorth_34 : decode cX4_meanWorth 34 = .ok (.iload_n 1, 1) := by decide +kernel
theorem dX4_meanWorth_35 : decode cX4_meanWorth 35 = .ok (.ireturn, 1) := by decide +kernel
theorem dX4_toldThoughts_0 : decode cX4_toldThoughts 0 = .ok (.iconst 0, 1) := by decide +kernel
theorem dX4_toldThoughts_1 : decode cX4_toldThoughts 1 = .ok (.istore_n 1, 1) := by decide +kernel
theorem dX4_toldThoughts_2 : decode cX4_toldThoughts 2 = .ok (.iconst 0, 1) := by decide +kernel
theorem dX4_toldThoughts_3 : decode cX4_toldThoughts 3 = .ok (.istore_n 2, 1) := by decide +kernel
theorem dX4_toldThoughts_4 : decode cX4_toldThoughts 4 = .ok (.iload_n 2, 1) := by decide +kernel
theorem dX4_toldThoughts_5 : decode cX4_toldThoughts 5 = .ok (.aload_n 0, 1) := by decide +kernel
theorem dX4_toldThoughts_6 : decode cX4_toldThoughts 6 = .ok (.getfield 36, 3) := by decide +kernel
theorem dX4_toldThoughts_9 : decode cX4_toldThoughts 9 = .ok (.if_icmp .ge 22, 3) := by decide +kernel
theorem dX4_toldThoughts_12 : decode cX4_toldThoughts 12 = .ok (.aload_n 0, 1) := by decide +kernel
theorem dX4_toldThoughts_13 : decode cX4_toldThoughts 13 = .ok (.getfield 24, 3) := by decide +kernel
theorem dX4_toldThoughts_16 : decode cX4_toldThoughts 16 = .ok (.iload_n 2, 1) := by decide +kernel
theorem dX4_toldThoughts_17 : decode cX4_toldThoughts 17 = .ok (.iaload, 1) := by decide +kernel
theorem dX4_toldThoughts_18 : decode cX4_toldThoughts 18 = .ok (.iconst (-1), 1) := by decide +kernel
theorem dX4_toldThoughts_19 : decode cX4_toldThoughts 19 = .ok (.if_icmp .eq 6, 3) := by decide +kernel
theorem dX4_toldThoughts_22 : decode cX4_toldThoughts 22 = .ok (.iinc 1 1, 3) := by decide +kernel
theorem dX4_toldThoughts_25 : decode cX4_toldThoughts 25 = .ok (.iinc 2 1, 3) := by decide +kernel
theorem dX4_toldThoughts_28 : decode cX4_toldThoughts 28 = .ok (.goto (-24), 3) := by decide +kernel
theorem dX4_toldThoughts_31 : decode cX4_toldThoughts 31 = .ok (.iload_n 1, 1) := by decide +kernel
theorem dX4_toldThoughts_32 : decode cX4_toldThoughts 32 = .ok (.ireturn, 1) := by decide +kernel
theorem dX4_allWorth_0 : decode cX4_allWorth 0 = .ok (.iconst 0, 1) := by decide +kernel
theorem dX4_allWorth_1 : decode cX4_allWorth 1 = .ok (.istore_n 1, 1) := by decide +kernel
theorem dX4_allWorth_2 : decode cX4_allWorth 2 = .ok (.iconst 0, 1) := by decide +kernel
theorem dX4_allWorth_3 : decode cX4_allWorth 3 = .ok (.istore_n 2, 1) := by decide +kernel
theorem dX4_allWorth_4 : decode cX4_allWorth 4 = .ok (.iload_n 2, 1) := by decide +kernel
theorem dX4_allWorth_5 : decode cX4_allWorth 5 = .ok (.aload_n 0, 1) := by decide +kernel
theorem dX4_allWorth_6 : decode cX4_allWorth 6 = .ok (.getfield 32, 3) := by decide +kernel
theorem dX4_allWorth_9 : decode cX4_allWorth 9 = .ok (.if_icmp .ge 18, 3) := by decide +kernel
theorem dX4_allWorth_12 : decode cX4_allWorth 12 = .ok (.iload_n 1, 1) := by decide +kernel
theorem dX4_allWorth_13 : decode cX4_allWorth 13 = .ok (.aload_n 0, 1) := by decide +kernel
theorem dX4_allWorth_14 : decode cX4_allWorth 14 = .ok (.getfield 15, 3) := by decide +kernel
theorem dX4_allWorth_17 : decode cX4_allWorth 17 = .ok (.iload_n 2, 1) := by decide +kernel
theorem dX4_allWorth_18 : decode cX4_allWorth 18 = .ok (.iaload, 1) := by decide +kernel
theorem dX4_allWorth_19 : decode cX4_allWorth 19 = .ok (.iadd, 1) := by decide +kernel
theorem dX4_allWorth_20 : decode cX4_allWorth 20 = .ok (.istore_n 1, 1) := by decide +kernel
theorem dX4_allWorth_21 : decode cX4_allWorth 21 = .ok (.iinc 2 1, 3) := by decide +kernel
theorem dX4_allWorth_24 : decode cX4_allWorth 24 = .ok (.goto (-20), 3) := by decide +kernel
theorem dX4_allWorth_27 : decode cX4_allWorth 27 = .ok (.iload_n 1, 1) := by decide +kernel
theorem dX4_allWorth_28 : decode cX4_allWorth 28 = .ok (.ireturn, 1) := by decide +kernel
theorem dX4_allCosts_0 : decode cX4_allCosts 0 = .ok (.iconst 0, 1) := by decide +kernel
theorem dX4_allCosts_1 : decode cX4_allCosts 1 = .ok (.istore_n 1, 1) := by decide +kernel
theorem dX4_allCosts_2 : decode cX4_allCosts 2 = .ok (.iconst 0, 1) := by decide +kernel
theorem dX4_allCosts_3 : decode cX4_allCosts 3 = .ok (.istore_n 2, 1) := by decide +kernel
theorem dX4_allCosts_4 : decode cX4_allCosts 4 = .ok (.iload_n 2, 1) := by decide +kernel
theorem dX4_allCosts_5 : decode cX4_allCosts 5 = .ok (.aload_n 0, 1) := by decide +kernel
theorem dX4_allCosts_6 : decode cX4_allCosts 6 = .ok (.getfield 36, 3) := by decide +kernel
theorem dX4_allCosts_9 : decode cX4_allCosts 9 = .ok (.if_icmp .ge 36, 3) := by decide +kernel
theorem dX4_allCosts_12 : decode cX4_allCosts 12 = .ok (.iconst 0, 1) := by decide +kernel
theorem dX4_allCosts_13 : decode cX4_allCosts 13 = .ok (.istore_n 3, 1) := by decide +kernel
theorem dX4_allCosts_14 : decode cX4_allCosts 14 = .ok (.iload_n 3, 1) := by decide +kernel
theorem dX4_allCosts_15 : decode cX4_allCosts 15 = .ok (.aload_n 0, 1) := by decide +kernel
theorem dX4_allCosts_16 : decode cX4_allCosts 16 = .ok (.getfield 32, 3) := by decide +kernel
theorem dX4_allCosts_19 : decode cX4_allCosts 19 = .ok (.if_icmp .ge 20, 3) := by decide +kernel
theorem dX4_allCosts_22 : decode cX4_allCosts 22 = .ok (.iload_n 1, 1) := by decide +kernel
theorem dX4_allCosts_23 : decode cX4_allCosts 23 = .ok (.aload_n 0, 1) := by decide +kernel
theorem dX4_allCosts_24 : decode cX4_allCosts 24 = .ok (.getfield 29, 3) := by decide +kernel
theorem dX4_allCosts_27 : decode cX4_allCosts 27 = .ok (.iload_n 2, 1) := by decide +kernel
theorem dX4_allCosts_28 : decode cX4_allCosts 28 = .ok (.aaload, 1) := by decide +kernel
theorem dX4_allCosts_29 : decode cX4_allCosts 29 = .ok (.iload_n 3, 1) := by decide +kernel
theorem dX4_allCosts_30 : decode cX4_allCosts 30 = .ok (.iaload, 1) := by decide +kernel
theorem dX4_allCosts_31 : decode cX4_allCosts 31 = .ok (.iadd, 1) := by decide +kernel
theorem dX4_allCosts_32 : decode cX4_allCosts 32 = .ok (.istore_n 1, 1) := by decide +kernel
theorem dX4_allCosts_33 : decode cX4_allCosts 33 = .ok (.iinc 3 1, 3) := by decide +kernel
theorem dX4_allCosts_36 : decode cX4_allCosts 36 = .ok (.goto (-22), 3) := by decide +kernel
theorem dX4_allCosts_39 : decode cX4_allCosts 39 = .ok (.iinc 2 1, 3) := by decide +kernel
theorem dX4_allCosts_42 : decode cX4_allCosts 42 = .ok (.goto (-38), 3) := by decide +kernel
theorem dX4_allCosts_45 : decode cX4_allCosts 45 = .ok (.iload_n 1, 1) := by decide +kernel
theorem dX4_allCosts_46 : decode cX4_allCosts 46 = .ok (.ireturn, 1) := by decide +kernel
set_option maxRecDepth 20000 in
theorem ggX5_init_X2_init : GoodIn wsX5_init wsX2_init := goodIn_r _ [4, 5, 6, 7, 8, 9, 10, 11, 12, 13, 14, 15, 16, 17, 18, 19, 20, 21, 22, 23, 24, 25, 26, 27, 28, 29, 30, 31, 32, 33, 34, 35, 36, 37, 38, 39, 40, 41, 42] (by decide +kernel) (by decide +kernel)
set_option maxRecDepth 20000 in
theorem gX5_init_X2_init : GoodIn wsX5_init (wsX2_init) := ggX5_init_X2_init
theorem dX5_init_0 : decode cX5_init 0 = .ok (.aload_n 0, 1) := by decide +kernel
theorem dX5_init_1 : decode cX5_init 1 = .ok (.iload_n 1, 1) := by decide +kernel
theorem dX5_init_2 : decode cX5_init 2 = .ok (.iload_n 2, 1) := by decide +kernel
theorem dX5_init_3 : decode cX5_init 3 = .ok (.invokespecial 1, 3) := by decide +kernel
theorem dX5_init_6 : decode cX5_init 6 = .ok (.return_, 1) := by decide +kernel
set_option maxRecDepth 20000 in
theorem ggX5_broad_X2_broad : GoodIn wsX5_broad wsX2_broad := goodIn_r _ [8, 9, 10, 11, 12, 13, 14, 15, 16, 17, 18, 19, 20, 21, 22, 23, 24, 25, 26, 27, 28, 29, 30, 31, 32, 33] (by decide +kernel) (by decide +kernel)
set_option maxRecDepth 20000 in
theorem gX5_broad_X2_broad_s7 : GoodIn wsX5_broad (va_wsSU RX5 7 yX2_broad wsX2_broad) := goodIn_app (goodIn_of _ (by decide +kernel)) ggX5_broad_X2_broad
theorem dX5_broad_0 : decode cX5_broad 0 = .ok (.aload_n 0, 1) := by decide +kernel
theorem dX5_broad_1 : decode cX5_broad 1 = .ok (.invokespecial 7, 3) := by decide +kernel
theorem dX5_broad_4 : decode cX5_broad 4 = .ok (.aload_n 0, 1) := by decide +kernel
theorem dX5_broad_5 : decode cX5_broad 5 = .ok (.getfield 11, 3) := by decide +kernel
theorem dX5_broad_8 : decode cX5_broad 8 = .ok (.iadd, 1) := by decide +kernel
theorem dX5_broad_9 : decode cX5_broad 9 = .ok (.ireturn, 1) := by decide +kernel
theorem dX5_canFail_0 : decode cX5_canFail 0 = .ok (.iconst 0, 1) := by decide +kernel
theorem dX5_canFail_1 : decode cX5_canFail 1 = .ok (.ireturn, 1) := by decide +kernel
set_option maxRecDepth 20000 in
theorem ggX6_init_X4_init : GoodIn wsX6_init wsX4_init := goodIn_r _ [12, 13, 2, 3, 8, 14, 15, 16, 17, 18, 19, 20, 21, 22, 23, 24, 25, 26, 27, 28, 29] (by decide +kernel) (by decide +kernel)
set_option maxRecDepth 20000 in
theorem gX6_init_X4_init : GoodIn wsX6_init (wsX4_init) := ggX6_init_X4_init
theorem dX6_init_0 : decode cX6_init 0 = .ok (.aload_n 0, 1) := by decide +kernel
theorem dX6_init_1 : decode cX6_init 1 = .ok (.invokespecial 3, 3) := by decide +kernel
theorem dX6_init_4 : decode cX6_init 4 = .ok (.aload_n 0, 1) := by decide +kernel
theorem dX6_init_5 : decode cX6_init 5 = .ok (.new 9, 3) := by decide +kernel
theorem dX6_init_8 : decode cX6_init 8 = .ok (.dup, 1) := by decide +kernel
theorem dX6_init_9 : decode cX6_init 9 = .ok (.invokespecial 11, 3) := by decide +kernel
theorem dX6_init_12 : decode cX6_init 12 = .ok (.putfield 12, 3) := by decide +kernel
theorem dX6_init_15 : decode cX6_init 15 = .ok (.aload_n 0, 1) := by decide +kernel
theorem dX6_init_16 : decode cX6_init 16 = .ok (.iconst 5, 1) := by decide +kernel
theorem dX6_init_17 : decode cX6_init 17 = .ok (.newarray .int, 2) := by decide +kernel
theorem dX6_init_19 : decode cX6_init 19 = .ok (.putfield 18, 3) := by decide +kernel
theorem dX6_init_22 : decode cX6_init 22 = .ok (.return_, 1) := by decide +kernel
set_option maxRecDepth 20000 in
theorem ggX6_readFrom_X4_clear : GoodIn wsX6_readFrom wsX4_clear := goodIn_r _ [11, 12, 13, 14, 96, 97, 98, 99, 100, 101, 102, 103, 104] (by decide +kernel) (by decide +kernel)
set_option maxRecDepth 20000 in
theorem gX6_readFrom_X4_clear : GoodIn wsX6_readFrom (wsV RX6 22 RX4 yX4_clear wsX4_clear) := goodIn_app (goodIn_of _ (by decide +kernel)) ggX6_readFrom_X4_clear
set_option maxRecDepth 20000 in
theorem ggX6_readFrom_X6_goesOn : GoodIn wsX6_readFrom wsX6_goesOn := goodIn_r _ [19, 2, 20, 21, 22, 23, 24, 18, 25, 26, 27, 28, 29, 30, 31, 32, 33, 34, 35, 36, 37, 38, 39, 40, 41, 42, 43, 44, 45, 46, 47, 48, 4, 3, 49, 50, 51, 52, 1, 53, 54, 55, 10, 56, 12, 13, 57, 58, 59, 60, 61, 62, 63, 64, 65, 66, 67, 68, 69, 70, 71, 72, 73, 74, 75, 76, 77, 78, 83, 84, 85, 86, 87, 88, 89, 90, 91, 96, 97, 98, 99, 100, 101, 102, 103, 104] (by decide +kernel) (by decide +kernel)
set_option maxRecDepth 20000 in
theorem gX6_readFrom_X6_goesOn : GoodIn wsX6_readFrom (wsV RX6 43 RX6 yX6_goesOn wsX6_goesOn) := goodIn_app (goodIn_of _ (by decide +kernel)) ggX6_readFrom_X6_goesOn
set_option maxRecDepth 20000 in
theorem ggX6_readFrom_X4_isWhole : GoodIn wsX6_readFrom wsX4_isWhole := goodIn_r _ [82, 12, 57, 13, 96, 97, 98, 99, 100, 101, 102, 103, 104] (by decide +kernel) (by decide +kernel)
set_option maxRecDepth 20000 in
theorem gX6_readFrom_X4_isWhole : GoodIn wsX6_readFrom (wsV RX6 47 RX4 yX4_isWhole wsX4_isWhole) := goodIn_app (goodIn_of _ (by decide +kernel)) ggX6_readFrom_X4_isWhole
theorem dX6_readFrom_0 : decode cX6_readFrom 0 = .ok (.aload_n 0, 1) := by decide +kernel
theorem dX6_readFrom_1 : decode cX6_readFrom 1 = .ok (.getfield 12, 3) := by decide +kernel
theorem dX6_readFrom_4 : decode cX6_readFrom 4 = .ok (.invokevirtual 22, 3) := by decide +kernel
theorem dX6_readFrom_7 : decode cX6_readFrom 7 = .ok (.aload_n 0, 1) := by decide +kernel
theorem dX6_readFrom_8 : decode cX6_readFrom 8 = .ok (.iconst 0, 1) := by decide +kernel
theorem dX6_readFrom_9 : decode cX6_readFrom 9 = .ok (.putfield 25, 3) := by decide +kernel
theorem dX6_readFrom_12 : decode cX6_readFrom 12 = .ok (.aload_n 0, 1) := by decide +kernel
theorem dX6_readFrom_13 : decode cX6_readFrom 13 = .ok (.iconst 0, 1) := by decide +kernel
theorem dX6_readFrom_14 : decode cX6_readFrom 14 = .ok (.putfield 29, 3) := by decide +kernel
theorem dX6_readFrom_17 : decode cX6_readFrom 17 = .ok (.aload_n 0, 1) := by decide +kernel
theorem dX6_readFrom_18 : decode cX6_readFrom 18 = .ok (.iconst (-1), 1) := by decide +kernel
theorem dX6_readFrom_19 : decode cX6_readFrom 19 = .ok (.putfield 32, 3) := by decide +kernel
theorem dX6_readFrom_22 : decode cX6_readFrom 22 = .ok (.iconst 0, 1) := by decide +kernel
theorem dX6_readFrom_23 : decode cX6_readFrom 23 = .ok (.istore_n 2, 1) := by decide +kernel
theorem dX6_readFrom_24 : decode cX6_readFrom 24 = .ok (.iload_n 2, 1) := by decide +kernel
theorem dX6_readFrom_25 : decode cX6_readFrom 25 = .ok (.aload_n 1, 1) := by decide +kernel
theorem dX6_readFrom_26 : decode cX6_readFrom 26 = .ok (.getfield 35, 3) := by decide +kernel
theorem dX6_readFrom_29 : decode cX6_readFrom 29 = .ok (.if_icmp .ge 29, 3) := by decide +kernel
theorem dX6_readFrom_32 : decode cX6_readFrom 32 = .ok (.aload_n 0, 1) := by decide +kernel
theorem dX6_readFrom_33 : decode cX6_readFrom 33 = .ok (.aload_n 1, 1) := by decide +kernel
theorem dX6_readFrom_34 : decode cX6_readFrom 34 = .ok (.getfield 40, 3) := by decide +kernel
theorem dX6_readFrom_37 : decode cX6_readFrom 37 = .ok (.iload_n 2, 1) := by decide +kernel
theorem dX6_readFrom_38 : decode cX6_readFrom 38 = .ok (.iaload, 1) := by decide +kernel
theorem dX6_readFrom_39 : decode cX6_readFrom 39 = .ok (.iload_n 2, 1) := by decide +kernel
theorem dX6_readFrom_40 : decode cX6_readFrom 40 = .ok (.invokevirtual 43, 3) := by decide +kernel
theorem dX6_readFrom_43 : decode cX6_readFrom 43 = .ok (.ifCond .ne 9, 3) := by decide +kernel
theorem dX6_readFrom_46 : decode cX6_readFrom 46 = .ok (.sipush (-1000), 3) := by decide +kernel
theorem dX6_readFrom_49 : decode cX6_readFrom 49 = .ok (.iload_n 2, 1) := by decide +kernel
theorem dX6_readFrom_50 : decode cX6_readFrom 50 = .ok (.isub, 1) := by decide +kernel
theorem dX6_readFrom_51 : decode cX6_readFrom 51 = .ok (.ireturn, 1) := by decide +kernel
theorem dX6_readFrom_52 : decode cX6_readFrom 52 = .ok (.iinc 2 1, 3) := by decide +kernel
theorem dX6_readFrom_55 : decode cX6_readFrom 55 = .ok (.goto (-31), 3) := by decide +kernel
theorem dX6_readFrom_58 : decode cX6_readFrom 58 = .ok (.aload_n 0, 1) := by decide +kernel
theorem dX6_readFrom_59 : decode cX6_readFrom 59 = .ok (.getfield 25, 3) := by decide +kernel
theorem dX6_readFrom_62 : decode cX6_readFrom 62 = .ok (.ifCond .ne 10, 3) := by decide +kernel
theorem dX6_readFrom_65 : decode cX6_readFrom 65 = .ok (.aload_n 0, 1) := by decide +kernel
theorem dX6_readFrom_66 : decode cX6_readFrom 66 = .ok (.getfield 29, 3) := by decide +kernel
theorem dX6_readFrom_69 : decode cX6_readFrom 69 = .ok (.ifCond .ne 12, 3) := by decide +kernel
theorem dX6_readFrom_72 : decode cX6_readFrom 72 = .ok (.sipush (-1000), 3) := by decide +kernel
theorem dX6_readFrom_75 : decode cX6_readFrom 75 = .ok (.aload_n 1, 1) := by decide +kernel
theorem dX6_readFrom_76 : decode cX6_readFrom 76 = .ok (.getfield 35, 3) := by decide +kernel
theorem dX6_readFrom_79 : decode cX6_readFrom 79 = .ok (.isub, 1) := by decide +kernel
theorem dX6_readFrom_80 : decode cX6_readFrom 80 = .ok (.ireturn, 1) := by decide +kernel
theorem dX6_readFrom_81 : decode cX6_readFrom 81 = .ok (.aload_n 0, 1) := by decide +kernel
theorem dX6_readFrom_82 : decode cX6_readFrom 82 = .ok (.getfield 32, 3) := by decide +kernel
theorem dX6_readFrom_85 : decode cX6_readFrom 85 = .ok (.ifCond .lt 12, 3) := by decide +kernel
theorem dX6_readFrom_88 : decode cX6_readFrom 88 = .ok (.sipush (-2000), 3) := by decide +kernel
theorem dX6_readFrom_91 : decode cX6_readFrom 91 = .ok (.aload_n 0, 1) := by decide +kernel
theorem dX6_readFrom_92 : decode cX6_readFrom 92 = .ok (.getfield 32, 3) := by decide +kernel
theorem dX6_readFrom_95 : decode cX6_readFrom 95 = .ok (.isub, 1) := by decide +kernel
theorem dX6_readFrom_96 : decode cX6_readFrom 96 = .ok (.ireturn, 1) := by decide +kernel
theorem dX6_readFrom_97 : decode cX6_readFrom 97 = .ok (.aload_n 0, 1) := by decide +kernel
theorem dX6_readFrom_98 : decode cX6_readFrom 98 = .ok (.getfield 12, 3) := by decide +kernel
theorem dX6_readFrom_101 : decode cX6_readFrom 101 = .ok (.invokevirtual 47, 3) := by decide +kernel
theorem dX6_readFrom_104 : decode cX6_readFrom 104 = .ok (.ifCond .eq 10, 3) := by decide +kernel
theorem dX6_readFrom_107 : decode cX6_readFrom 107 = .ok (.aload_n 0, 1) := by decide +kernel
theorem dX6_readFrom_108 : decode cX6_readFrom 108 = .ok (.getfield 29, 3) := by decide +kernel
theorem dX6_readFrom_111 : decode cX6_readFrom 111 = .ok (.goto 6, 3) := by decide +kernel
theorem dX6_readFrom_114 : decode cX6_readFrom 114 = .ok (.sipush (-3000), 3) := by decide +kernel
theorem dX6_readFrom_117 : decode cX6_readFrom 117 = .ok (.ireturn, 1) := by decide +kernel
set_option maxRecDepth 20000 in
theorem ggX6_goesOn_X6_begins : GoodIn wsX6_goesOn wsX6_begins := goodIn_r _ [8, 1, 9, 3, 2, 10, 68, 69, 70, 71, 72, 73, 74, 75, 76] (by decide +kernel) (by decide +kernel)
set_option maxRecDepth 20000 in
theorem gX6_goesOn_X6_begins : GoodIn wsX6_goesOn (wsV RX6 51 RX6 yX6_begins wsX6_begins) := goodIn_app (goodIn_of _ (by decide +kernel)) ggX6_goesOn_X6_begins
set_option maxRecDepth 20000 in
theorem ggX6_goesOn_X6_takesDigit : GoodIn wsX6_goesOn wsX6_takesDigit := goodIn_r _ [14, 2, 10, 68, 69, 70, 71, 72, 73, 74, 75, 76] (by decide +kernel) (by decide +kernel)
set_option maxRecDepth 20000 in
theorem gX6_goesOn_X6_takesDigit : GoodIn wsX6_goesOn (wsV RX6 54 RX6 yX6_takesDigit wsX6_takesDigit) := goodIn_app (goodIn_of _ (by decide +kernel)) ggX6_goesOn_X6_takesDigit
set_option maxRecDepth 20000 in
theorem ggX6_goesOn_X6_mostNumbers : GoodIn wsX6_goesOn wsX6_mostNumbers := goodIn_r _ [18, 1, 19, 20, 21, 7, 22, 68, 69, 70, 71, 72, 73, 74, 75, 76] (by decide +kernel) (by decide +kernel)
set_option maxRecDepth 20000 in
theorem gX6_goesOn_X6_mostNumbers : GoodIn wsX6_goesOn (wsV RX6 64 RX6 yX6_mostNumbers wsX6_mostNumbers) := goodIn_app (goodIn_of _ (by decide +kernel)) ggX6_goesOn_X6_mostNumbers
set_option maxRecDepth 20000 in
theorem ggX6_goesOn_X6_endNumber : GoodIn wsX6_goesOn wsX6_endNumber := goodIn_r _ [26, 3, 27, 10, 2, 68, 69, 70, 71, 72, 73, 74, 75, 76] (by decide +kernel) (by decide +kernel)
set_option maxRecDepth 20000 in
theorem gX6_goesOn_X6_endNumber : GoodIn wsX6_goesOn (wsV RX6 68 RX6 yX6_endNumber wsX6_endNumber) := goodIn_app (goodIn_of _ (by decide +kernel)) ggX6_goesOn_X6_endNumber
set_option maxRecDepth 20000 in
theorem ggX6_goesOn_X6_leastNumbers : GoodIn wsX6_goesOn wsX6_leastNumbers := goodIn_r _ [22, 1, 68, 69, 70, 71, 72, 73, 74, 75, 76] (by decide +kernel) (by decide +kernel)
set_option maxRecDepth 20000 in
theorem gX6_goesOn_X6_leastNumbers : GoodIn wsX6_goesOn (wsV RX6 71 RX6 yX6_leastNumbers wsX6_leastNumbers) := goodIn_app (goodIn_of _ (by decide +kernel)) ggX6_goesOn_X6_leastNumbers
set_option maxRecDepth 20000 in
theorem ggX6_goesOn_X6_endStatement : GoodIn wsX6_goesOn wsX6_endStatement := goodIn_r _ [31, 32, 9, 33, 1, 34, 35, 36, 7, 37, 38, 27, 3, 39, 40, 41, 42, 43, 44, 45, 46, 47, 48, 49, 50, 51, 52, 53, 54, 55, 56, 57, 58, 59, 60, 61, 62, 63, 64, 65, 66, 67, 68, 69, 70, 71, 72, 73, 74, 75, 76, 77, 78, 79, 80, 81, 82, 83, 84, 85] (by decide +kernel) (by decide +kernel)
set_option maxRecDepth 20000 in
theorem gX6_goesOn_X6_endStatement : GoodIn wsX6_goesOn (wsV RX6 74 RX6 yX6_endStatement wsX6_endStatement) := goodIn_app (goodIn_of _ (by decide +kernel)) ggX6_goesOn_X6_endStatement
theorem dX6_goesOn_0 : decode cX6_goesOn 0 = .ok (.aload_n 0, 1) := by decide +kernel
theorem dX6_goesOn_1 : decode cX6_goesOn 1 = .ok (.getfield 25, 3) := by decide +kernel
theorem dX6_goesOn_4 : decode cX6_goesOn 4 = .ok (.ifCond .ne 10, 3) := by decide +kernel
theorem dX6_goesOn_7 : decode cX6_goesOn 7 = .ok (.aload_n 0, 1) := by decide +kernel
theorem dX6_goesOn_8 : decode cX6_goesOn 8 = .ok (.iload_n 1, 1) := by decide +kernel
theorem dX6_goesOn_9 : decode cX6_goesOn 9 = .ok (.iload_n 2, 1) := by decide +kernel
theorem dX6_goesOn_10 : decode cX6_goesOn 10 = .ok (.invokevirtual 51, 3) := by decide +kernel
theorem dX6_goesOn_13 : decode cX6_goesOn 13 = .ok (.ireturn, 1) := by decide +kernel
theorem dX6_goesOn_14 : decode cX6_goesOn 14 = .ok (.iload_n 1, 1) := by decide +kernel
theorem dX6_goesOn_15 : decode cX6_goesOn 15 = .ok (.bipush 48, 2) := by decide +kernel
theorem dX6_goesOn_17 : decode cX6_goesOn 17 = .ok (.if_icmp .lt 18, 3) := by decide +kernel
theorem dX6_goesOn_20 : decode cX6_goesOn 20 = .ok (.iload_n 1, 1) := by decide +kernel
theorem dX6_goesOn_21 : decode cX6_goesOn 21 = .ok (.bipush 57, 2) := by decide +kernel
theorem dX6_goesOn_23 : decode cX6_goesOn 23 = .ok (.if_icmp .gt 12, 3) := by decide +kernel
theorem dX6_goesOn_26 : decode cX6_goesOn 26 = .ok (.aload_n 0, 1) := by decide +kernel
theorem dX6_goesOn_27 : decode cX6_goesOn 27 = .ok (.iload_n 1, 1) := by decide +kernel
theorem dX6_goesOn_28 : decode cX6_goesOn 28 = .ok (.bipush 48, 2) := by decide +kernel
theorem dX6_goesOn_30 : decode cX6_goesOn 30 = .ok (.isub, 1) := by decide +kernel
theorem dX6_goesOn_31 : decode cX6_goesOn 31 = .ok (.invokevirtual 54, 3) := by decide +kernel
theorem dX6_goesOn_34 : decode cX6_goesOn 34 = .ok (.ireturn, 1) := by decide +kernel
theorem dX6_goesOn_35 : decode cX6_goesOn 35 = .ok (.aload_n 0, 1) := by decide +kernel
theorem dX6_goesOn_36 : decode cX6_goesOn 36 = .ok (.getfield 58, 3) := by decide +kernel
theorem dX6_goesOn_39 : decode cX6_goesOn 39 = .ok (.ifCond .ne 5, 3) := by decide +kernel
theorem dX6_goesOn_42 : decode cX6_goesOn 42 = .ok (.iconst 0, 1) := by decide +kernel
theorem dX6_goesOn_43 : decode cX6_goesOn 43 = .ok (.ireturn, 1) := by decide +kernel
theorem dX6_goesOn_44 : decode cX6_goesOn 44 = .ok (.iload_n 1, 1) := by decide +kernel
theorem dX6_goesOn_45 : decode cX6_goesOn 45 = .ok (.bipush 32, 2) := by decide +kernel
theorem dX6_goesOn_47 : decode cX6_goesOn 47 = .ok (.if_icmp .ne 22, 3) := by decide +kernel
theorem dX6_goesOn_50 : decode cX6_goesOn 50 = .ok (.aload_n 0, 1) := by decide +kernel
theorem dX6_goesOn_51 : decode cX6_goesOn 51 = .ok (.getfield 61, 3) := by decide +kernel
theorem dX6_goesOn_54 : decode cX6_goesOn 54 = .ok (.iconst 1, 1) := by decide +kernel
theorem dX6_goesOn_55 : decode cX6_goesOn 55 = .ok (.iadd, 1) := by decide +kernel
theorem dX6_goesOn_56 : decode cX6_goesOn 56 = .ok (.aload_n 0, 1) := by decide +kernel
theorem dX6_goesOn_57 : decode cX6_goesOn 57 = .ok (.invokevirtual 64, 3) := by decide +kernel
theorem dX6_goesOn_60 : decode cX6_goesOn 60 = .ok (.if_icmp .ge 9, 3) := by decide +kernel
theorem dX6_goesOn_63 : decode cX6_goesOn 63 = .ok (.aload_n 0, 1) := by decide +kernel
theorem dX6_goesOn_64 : decode cX6_goesOn 64 = .ok (.invokevirtual 68, 3) := by decide +kernel
theorem dX6_goesOn_67 : decode cX6_goesOn 67 = .ok (.iconst 1, 1) := by decide +kernel
theorem dX6_goesOn_68 : decode cX6_goesOn 68 = .ok (.ireturn, 1) := by decide +kernel
theorem dX6_goesOn_69 : decode cX6_goesOn 69 = .ok (.iload_n 1, 1) := by decide +kernel
theorem dX6_goesOn_70 : decode cX6_goesOn 70 = .ok (.bipush 59, 2) := by decide +kernel
theorem dX6_goesOn_72 : decode cX6_goesOn 72 = .ok (.if_icmp .ne 26, 3) := by decide +kernel
theorem dX6_goesOn_75 : decode cX6_goesOn 75 = .ok (.aload_n 0, 1) := by decide +kernel
theorem dX6_goesOn_76 : decode cX6_goesOn 76 = .ok (.getfield 61, 3) := by decide +kernel
theorem dX6_goesOn_79 : decode cX6_goesOn 79 = .ok (.iconst 1, 1) := by decide +kernel
theorem dX6_goesOn_80 : decode cX6_goesOn 80 = .ok (.iadd, 1) := by decide +kernel
theorem dX6_goesOn_81 : decode cX6_goesOn 81 = .ok (.aload_n 0, 1) := by decide +kernel
theorem dX6_goesOn_82 : decode cX6_goesOn 82 = .ok (.invokevirtual 71, 3) := by decide +kernel
theorem dX6_goesOn_85 : decode cX6_goesOn 85 = .ok (.if_icmp .lt 13, 3) := by decide +kernel
theorem dX6_goesOn_88 : decode cX6_goesOn 88 = .ok (.aload_n 0, 1) := by decide +kernel
theorem dX6_goesOn_89 : decode cX6_goesOn 89 = .ok (.invokevirtual 68, 3) := by decide +kernel
theorem dX6_goesOn_92 : decode cX6_goesOn 92 = .ok (.aload_n 0, 1) := by decide +kernel
theorem dX6_goesOn_93 : decode cX6_goesOn 93 = .ok (.invokevirtual 74, 3) := by decide +kernel
theorem dX6_goesOn_96 : decode cX6_goesOn 96 = .ok (.iconst 1, 1) := by decide +kernel
theorem dX6_goesOn_97 : decode cX6_goesOn 97 = .ok (.ireturn, 1) := by decide +kernel
theorem dX6_goesOn_98 : decode cX6_goesOn 98 = .ok (.iconst 0, 1) := by decide +kernel
theorem dX6_goesOn_99 : decode cX6_goesOn 99 = .ok (.ireturn, 1) := by decide +kernel
theorem dX6_begins_0 : decode cX6_begins 0 = .ok (.iload_n 1, 1) := by decide +kernel
theorem dX6_begins_1 : decode cX6_begins 1 = .ok (.bipush 115, 2) := by decide +kernel
theorem dX6_begins_3 : decode cX6_begins 3 = .ok (.if_icmp .eq 17, 3) := by decide +kernel
theorem dX6_begins_6 : decode cX6_begins 6 = .ok (.iload_n 1, 1) := by decide +kernel
theorem dX6_begins_7 : decode cX6_begins 7 = .ok (.bipush 109, 2) := by decide +kernel
theorem dX6_begins_9 : decode cX6_begins 9 = .ok (.if_icmp .eq 11, 3) := by decide +kernel
theorem dX6_begins_12 : decode cX6_begins 12 = .ok (.iload_n 1, 1) := by decide +kernel
theorem dX6_begins_13 : decode cX6_begins 13 = .ok (.bipush 116, 2) := by decide +kernel
theorem dX6_begins_15 : decode cX6_begins 15 = .ok (.if_icmp .eq 5, 3) := by decide +kernel
theorem dX6_begins_18 : decode cX6_begins 18 = .ok (.iconst 0, 1) := by decide +kernel
theorem dX6_begins_19 : decode cX6_begins 19 = .ok (.ireturn, 1) := by decide +kernel
theorem dX6_begins_20 : decode cX6_begins 20 = .ok (.aload_n 0, 1) := by decide +kernel
theorem dX6_begins_21 : decode cX6_begins 21 = .ok (.iload_n 1, 1) := by decide +kernel
theorem dX6_begins_22 : decode cX6_begins 22 = .ok (.putfield 25, 3) := by decide +kernel
theorem dX6_begins_25 : decode cX6_begins 25 = .ok (.aload_n 0, 1) := by decide +kernel
theorem dX6_begins_26 : decode cX6_begins 26 = .ok (.iload_n 2, 1) := by decide +kernel
theorem dX6_begins_27 : decode cX6_begins 27 = .ok (.putfield 77, 3) := by decide +kernel
theorem dX6_begins_30 : decode cX6_begins 30 = .ok (.aload_n 0, 1) := by decide +kernel
theorem dX6_begins_31 : decode cX6_begins 31 = .ok (.iconst 0, 1) := by decide +kernel
theorem dX6_begins_32 : decode cX6_begins 32 = .ok (.putfield 61, 3) := by decide +kernel
theorem dX6_begins_35 : decode cX6_begins 35 = .ok (.aload_n 0, 1) := by decide +kernel
theorem dX6_begins_36 : decode cX6_begins 36 = .ok (.iconst 0, 1) := by decide +kernel
theorem dX6_begins_37 : decode cX6_begins 37 = .ok (.putfield 58, 3) := by decide +kernel
theorem dX6_begins_40 : decode cX6_begins 40 = .ok (.aload_n 0, 1) := by decide +kernel
theorem dX6_begins_41 : decode cX6_begins 41 = .ok (.iconst 0, 1) := by decide +kernel
theorem dX6_begins_42 : decode cX6_begins 42 = .ok (.putfield 80, 3) := by decide +kernel
theorem dX6_begins_45 : decode cX6_begins 45 = .ok (.iconst 1, 1) := by decide +kernel
theorem dX6_begins_46 : decode cX6_begins 46 = .ok (.ireturn, 1) := by decide +kernel
theorem dX6_takesDigit_0 : decode cX6_takesDigit 0 = .ok (.aload_n 0, 1) := by decide +kernel
theorem dX6_takesDigit_1 : decode cX6_takesDigit 1 = .ok (.getfield 58, 3) := by decide +kernel
theorem dX6_takesDigit_4 : decode cX6_takesDigit 4 = .ok (.ifCond .le 14, 3) := by decide +kernel
theorem dX6_takesDigit_7 : decode cX6_takesDigit 7 = .ok (.aload_n 0, 1) := by decide +kernel
theorem dX6_takesDigit_8 : decode cX6_takesDigit 8 = .ok (.getfield 80, 3) := by decide +kernel
theorem dX6_takesDigit_11 : decode cX6_takesDigit 11 = .ok (.ifCond .ne 7, 3) := by decide +kernel
theorem dX6_takesDigit_14 : decode cX6_takesDigit 14 = .ok (.iconst 1, 1) := by decide +kernel
theorem dX6_takesDigit_15 : decode cX6_takesDigit 15 = .ok (.goto 4, 3) := by decide +kernel
theorem dX6_takesDigit_18 : decode cX6_takesDigit 18 = .ok (.iconst 0, 1) := by decide +kernel
theorem dX6_takesDigit_19 : decode cX6_takesDigit 19 = .ok (.istore_n 2, 1) := by decide +kernel
theorem dX6_takesDigit_20 : decode cX6_takesDigit 20 = .ok (.aload_n 0, 1) := by decide +kernel
theorem dX6_takesDigit_21 : decode cX6_takesDigit 21 = .ok (.getfield 58, 3) := by decide +kernel
theorem dX6_takesDigit_24 : decode cX6_takesDigit 24 = .ok (.iconst 3, 1) := by decide +kernel
theorem dX6_takesDigit_25 : decode cX6_takesDigit 25 = .ok (.if_icmp .eq 7, 3) := by decide +kernel
theorem dX6_takesDigit_28 : decode cX6_takesDigit 28 = .ok (.iload_n 2, 1) := by decide +kernel
theorem dX6_takesDigit_29 : decode cX6_takesDigit 29 = .ok (.ifCond .eq 5, 3) := by decide +kernel
theorem dX6_takesDigit_32 : decode cX6_takesDigit 32 = .ok (.iconst 0, 1) := by decide +kernel
theorem dX6_takesDigit_33 : decode cX6_takesDigit 33 = .ok (.ireturn, 1) := by decide +kernel
theorem dX6_takesDigit_34 : decode cX6_takesDigit 34 = .ok (.aload_n 0, 1) := by decide +kernel
theorem dX6_takesDigit_35 : decode cX6_takesDigit 35 = .ok (.bipush 10, 2) := by decide +kernel
theorem dX6_takesDigit_37 : decode cX6_takesDigit 37 = .ok (.aload_n 0, 1) := by decide +kernel
theorem dX6_takesDigit_38 : decode cX6_takesDigit 38 = .ok (.getfield 80, 3) := by decide +kernel
theorem dX6_takesDigit_41 : decode cX6_takesDigit 41 = .ok (.imul, 1) := by decide +kernel
theorem dX6_takesDigit_42 : decode cX6_takesDigit 42 = .ok (.iload_n 1, 1) := by decide +kernel
theorem dX6_takesDigit_43 : decode cX6_takesDigit 43 = .ok (.iadd, 1) := by decide +kernel
theorem dX6_takesDigit_44 : decode cX6_takesDigit 44 = .ok (.putfield 80, 3) := by decide +kernel
theorem dX6_takesDigit_47 : decode cX6_takesDigit 47 = .ok (.aload_n 0, 1) := by decide +kernel
theorem dX6_takesDigit_48 : decode cX6_takesDigit 48 = .ok (.dup, 1) := by decide +kernel
theorem dX6_takesDigit_49 : decode cX6_takesDigit 49 = .ok (.getfield 58, 3) := by decide +kernel
theorem dX6_takesDigit_52 : decode cX6_takesDigit 52 = .ok (.iconst 1, 1) := by decide +kernel
theorem dX6_takesDigit_53 : decode cX6_takesDigit 53 = .ok (.iadd, 1) := by decide +kernel
theorem dX6_takesDigit_54 : decode cX6_takesDigit 54 = .ok (.putfield 58, 3) := by decide +kernel
theorem dX6_takesDigit_57 : decode cX6_takesDigit 57 = .ok (.iconst 1, 1) := by decide +kernel
theorem dX6_takesDigit_58 : decode cX6_takesDigit 58 = .ok (.ireturn, 1) := by decide +kernel
set_option maxRecDepth 20000 in
theorem ggX6_mostNumbers_X6_leastNumbers : GoodIn wsX6_mostNumbers wsX6_leastNumbers := goodIn_r _ [6, 1, 7, 8, 9, 10, 11, 12, 13, 14, 15] (by decide +kernel) (by decide +kernel)
set_option maxRecDepth 20000 in
theorem gX6_mostNumbers_X6_leastNumbers : GoodIn wsX6_mostNumbers (wsV RX6 71 RX6 yX6_leastNumbers wsX6_leastNumbers) := goodIn_app (goodIn_of _ (by decide +kernel)) ggX6_mostNumbers_X6_leastNumbers
theorem dX6_mostNumbers_0 : decode cX6_mostNumbers 0 = .ok (.aload_n 0, 1) := by decide +kernel
theorem dX6_mostNumbers_1 : decode cX6_mostNumbers 1 = .ok (.getfield 25, 3) := by decide +kernel
theorem dX6_mostNumbers_4 : decode cX6_mostNumbers 4 = .ok (.bipush 109, 2) := by decide +kernel
theorem dX6_mostNumbers_6 : decode cX6_mostNumbers 6 = .ok (.if_icmp .ne 6, 3) := by decide +kernel
theorem dX6_mostNumbers_9 : decode cX6_mostNumbers 9 = .ok (.bipush 120, 2) := by decide +kernel
theorem dX6_mostNumbers_11 : decode cX6_mostNumbers 11 = .ok (.ireturn, 1) := by decide +kernel
theorem dX6_mostNumbers_12 : decode cX6_mostNumbers 12 = .ok (.aload_n 0, 1) := by decide +kernel
theorem dX6_mostNumbers_13 : decode cX6_mostNumbers 13 = .ok (.invokevirtual 71, 3) := by decide +kernel
theorem dX6_mostNumbers_16 : decode cX6_mostNumbers 16 = .ok (.ireturn, 1) := by decide +kernel
theorem dX6_leastNumbers_0 : decode cX6_leastNumbers 0 = .ok (.aload_n 0, 1) := by decide +kernel
theorem dX6_leastNumbers_1 : decode cX6_leastNumbers 1 = .ok (.getfield 25, 3) := by decide +kernel
theorem dX6_leastNumbers_4 : decode cX6_leastNumbers 4 = .ok (.bipush 109, 2) := by decide +kernel
theorem dX6_leastNumbers_6 : decode cX6_leastNumbers 6 = .ok (.if_icmp .ne 5, 3) := by decide +kernel
theorem dX6_leastNumbers_9 : decode cX6_leastNumbers 9 = .ok (.iconst 1, 1) := by decide +kernel
theorem dX6_leastNumbers_10 : decode cX6_leastNumbers 10 = .ok (.ireturn, 1) := by decide +kernel
theorem dX6_leastNumbers_11 : decode cX6_leastNumbers 11 = .ok (.aload_n 0, 1) := by decide +kernel
theorem dX6_leastNumbers_12 : decode cX6_leastNumbers 12 = .ok (.getfield 25, 3) := by decide +kernel
theorem dX6_leastNumbers_15 : decode cX6_leastNumbers 15 = .ok (.bipush 115, 2) := by decide +kernel
theorem dX6_leastNumbers_17 : decode cX6_leastNumbers 17 = .ok (.if_icmp .ne 7, 3) := by decide +kernel
theorem dX6_leastNumbers_20 : decode cX6_leastNumbers 20 = .ok (.iconst 3, 1) := by decide +kernel
theorem dX6_leastNumbers_21 : decode cX6_leastNumbers 21 = .ok (.goto 4, 3) := by decide +kernel
theorem dX6_leastNumbers_24 : decode cX6_leastNumbers 24 = .ok (.iconst 2, 1) := by decide +kernel
theorem dX6_leastNumbers_25 : decode cX6_leastNumbers 25 = .ok (.ireturn, 1) := by decide +kernel
theorem dX6_endNumber_0 : decode cX6_endNumber 0 = .ok (.aload_n 0, 1) := by decide +kernel
theorem dX6_endNumber_1 : decode cX6_endNumber 1 = .ok (.getfield 61, 3) := by decide +kernel
theorem dX6_endNumber_4 : decode cX6_endNumber 4 = .ok (.aload_n 0, 1) := by decide +kernel
theorem dX6_endNumber_5 : decode cX6_endNumber 5 = .ok (.getfield 18, 3) := by decide +kernel
theorem dX6_endNumber_8 : decode cX6_endNumber 8 = .ok (.arraylength, 1) := by decide +kernel
theorem dX6_endNumber_9 : decode cX6_endNumber 9 = .ok (.if_icmp .ge 16, 3) := by decide +kernel
theorem dX6_endNumber_12 : decode cX6_endNumber 12 = .ok (.aload_n 0, 1) := by decide +kernel
theorem dX6_endNumber_13 : decode cX6_endNumber 13 = .ok (.getfield 18, 3) := by decide +kernel
theorem dX6_endNumber_16 : decode cX6_endNumber 16 = .ok (.aload_n 0, 1) := by decide +kernel
theorem dX6_endNumber_17 : decode cX6_endNumber 17 = .ok (.getfield 61, 3) := by decide +kernel
theorem dX6_endNumber_20 : decode cX6_endNumber 20 = .ok (.aload_n 0, 1) := by decide +kernel
theorem dX6_endNumber_21 : decode cX6_endNumber 21 = .ok (.getfield 80, 3) := by decide +kernel
theorem dX6_endNumber_24 : decode cX6_endNumber 24 = .ok (.iastore, 1) := by decide +kernel
theorem dX6_endNumber_25 : decode cX6_endNumber 25 = .ok (.aload_n 0, 1) := by decide +kernel
theorem dX6_endNumber_26 : decode cX6_endNumber 26 = .ok (.dup, 1) := by decide +kernel
theorem dX6_endNumber_27 : decode cX6_endNumber 27 = .ok (.getfield 61, 3) := by decide +kernel
theorem dX6_endNumber_30 : decode cX6_endNumber 30 = .ok (.iconst 1, 1) := by decide +kernel
theorem dX6_endNumber_31 : decode cX6_endNumber 31 = .ok (.iadd, 1) := by decide +kernel
theorem dX6_endNumber_32 : decode cX6_endNumber 32 = .ok (.putfield 61, 3) := by decide +kernel
theorem dX6_endNumber_35 : decode cX6_endNumber 35 = .ok (.aload_n 0, 1) := by decide +kernel
theorem dX6_endNumber_36 : decode cX6_endNumber 36 = .ok (.iconst 0, 1) := by decide +kernel
theorem dX6_endNumber_37 : decode cX6_endNumber 37 = .ok (.putfield 58, 3) := by decide +kernel
theorem dX6_endNumber_40 : decode cX6_endNumber 40 = .ok (.aload_n 0, 1) := by decide +kernel
theorem dX6_endNumber_41 : decode cX6_endNumber 41 = .ok (.iconst 0, 1) := by decide +kernel
theorem dX6_endNumber_42 : decode cX6_endNumber 42 = .ok (.putfield 80, 3) := by decide +kernel
theorem dX6_endNumber_45 : decode cX6_endNumber 45 = .ok (.return_, 1) := by decide +kernel
set_option maxRecDepth 20000 in
theorem ggX6_endStatement_X6_isAsTold : GoodIn wsX6_endStatement wsX6_isAsTold := goodIn_r _ [9, 4, 10, 11, 12, 13, 14, 15, 16, 17, 18, 19, 20, 21, 22, 23, 24, 25, 26, 27, 28, 29, 30, 31, 32, 33, 34, 35, 36, 37, 38, 39, 40, 41, 42, 43, 44, 45, 46, 47, 48, 49, 50, 51, 52, 53, 54, 55, 56, 57, 58, 59] (by decide +kernel) (by decide +kernel)
set_option maxRecDepth 20000 in
theorem gX6_endStatement_X6_isAsTold : GoodIn wsX6_endStatement (wsV RX6 83 RX6 yX6_isAsTold wsX6_isAsTold) := goodIn_app (goodIn_of _ (by decide +kernel)) ggX6_endStatement_X6_isAsTold
theorem dX6_endStatement_0 : decode cX6_endStatement 0 = .ok (.aload_n 0, 1) := by decide +kernel
theorem dX6_endStatement_1 : decode cX6_endStatement 1 = .ok (.getfield 32, 3) := by decide +kernel
theorem dX6_endStatement_4 : decode cX6_endStatement 4 = .ok (.ifCond .ge 18, 3) := by decide +kernel
theorem dX6_endStatement_7 : decode cX6_endStatement 7 = .ok (.aload_n 0, 1) := by decide +kernel
theorem dX6_endStatement_8 : decode cX6_endStatement 8 = .ok (.invokevirtual 83, 3) := by decide +kernel
theorem dX6_endStatement_11 : decode cX6_endStatement 11 = .ok (.ifCond .ne 11, 3) := by decide +kernel
theorem dX6_endStatement_14 : decode cX6_endStatement 14 = .ok (.aload_n 0, 1) := by decide +kernel
theorem dX6_endStatement_15 : decode cX6_endStatement 15 = .ok (.aload_n 0, 1) := by decide +kernel
theorem dX6_endStatement_16 : decode cX6_endStatement 16 = .ok (.getfield 77, 3) := by decide +kernel
theorem dX6_endStatement_19 : decode cX6_endStatement 19 = .ok (.putfield 32, 3) := by decide +kernel
theorem dX6_endStatement_22 : decode cX6_endStatement 22 = .ok (.aload_n 0, 1) := by decide +kernel
theorem dX6_endStatement_23 : decode cX6_endStatement 23 = .ok (.dup, 1) := by decide +kernel
theorem dX6_endStatement_24 : decode cX6_endStatement 24 = .ok (.getfield 29, 3) := by decide +kernel
theorem dX6_endStatement_27 : decode cX6_endStatement 27 = .ok (.iconst 1, 1) := by decide +kernel
theorem dX6_endStatement_28 : decode cX6_endStatement 28 = .ok (.iadd, 1) := by decide +kernel
theorem dX6_endStatement_29 : decode cX6_endStatement 29 = .ok (.putfield 29, 3) := by decide +kernel
theorem dX6_endStatement_32 : decode cX6_endStatement 32 = .ok (.aload_n 0, 1) := by decide +kernel
theorem dX6_endStatement_33 : decode cX6_endStatement 33 = .ok (.iconst 0, 1) := by decide +kernel
theorem dX6_endStatement_34 : decode cX6_endStatement 34 = .ok (.putfield 25, 3) := by decide +kernel
theorem dX6_endStatement_37 : decode cX6_endStatement 37 = .ok (.return_, 1) := by decide +kernel
set_option maxRecDepth 20000 in
theorem ggX6_isAsTold_X4_addSort : GoodIn wsX6_isAsTold wsX4_addSort := goodIn_r _ [9, 10, 11, 12, 13, 14, 43, 44, 45, 46, 47, 48, 49, 50, 51] (by decide +kernel) (by decide +kernel)
set_option maxRecDepth 20000 in
theorem gX6_isAsTold_X4_addSort : GoodIn wsX6_isAsTold (wsV RX6 86 RX4 yX4_addSort wsX4_addSort) := goodIn_app (goodIn_of _ (by decide +kernel)) ggX6_isAsTold_X4_addSort
set_option maxRecDepth 20000 in
theorem ggX6_isAsTold_X4_addMark : GoodIn wsX6_isAsTold wsX4_addMark := goodIn_r _ [18, 11, 10, 19, 20, 21, 43, 44, 45, 46, 47, 48, 49, 50, 51] (by decide +kernel) (by decide +kernel)
set_option maxRecDepth 20000 in
theorem gX6_isAsTold_X4_addMark : GoodIn wsX6_isAsTold (wsV RX6 90 RX4 yX4_addMark wsX4_addMark) := goodIn_app (goodIn_of _ (by decide +kernel)) ggX6_isAsTold_X4_addMark
set_option maxRecDepth 20000 in
theorem ggX6_isAsTold_X4_tell : GoodIn wsX6_isAsTold wsX4_tell := goodIn_r _ [25, 20, 26, 27, 28, 8, 29, 11, 30, 31, 32, 33, 10, 43, 44, 45, 46, 47, 48, 49, 50, 51] (by decide +kernel) (by decide +kernel)
set_option maxRecDepth 20000 in
theorem gX6_isAsTold_X4_tell : GoodIn wsX6_isAsTold (wsV RX6 94 RX4 yX4_tell wsX4_tell) := goodIn_app (goodIn_of _ (by decide +kernel)) ggX6_isAsTold_X4_tell
theorem dX6_isAsTold_0 : decode cX6_isAsTold 0 = .ok (.aload_n 0, 1) := by decide +kernel
theorem dX6_isAsTold_1 : decode cX6_isAsTold 1 = .ok (.getfield 25, 3) := by decide +kernel
theorem dX6_isAsTold_4 : decode cX6_isAsTold 4 = .ok (.lookupswitch 70 #[(109, 54), (115, 28)], 28) := by decide +kernel
theorem dX6_isAsTold_32 : decode cX6_isAsTold 32 = .ok (.aload_n 0, 1) := by decide +kernel
theorem dX6_isAsTold_33 : decode cX6_isAsTold 33 = .ok (.getfield 12, 3) := by decide +kernel
theorem dX6_isAsTold_36 : decode cX6_isAsTold 36 = .ok (.aload_n 0, 1) := by decide +kernel
theorem dX6_isAsTold_37 : decode cX6_isAsTold 37 = .ok (.getfield 18, 3) := by decide +kernel
theorem dX6_isAsTold_40 : decode cX6_isAsTold 40 = .ok (.iconst 0, 1) := by decide +kernel
theorem dX6_isAsTold_41 : decode cX6_isAsTold 41 = .ok (.iaload, 1) := by decide +kernel
theorem dX6_isAsTold_42 : decode cX6_isAsTold 42 = .ok (.aload_n 0, 1) := by decide +kernel
theorem dX6_isAsTold_43 : decode cX6_isAsTold 43 = .ok (.getfield 18, 3) := by decide +kernel
theorem dX6_isAsTold_46 : decode cX6_isAsTold 46 = .ok (.iconst 1, 1) := by decide +kernel
theorem dX6_isAsTold_47 : decode cX6_isAsTold 47 = .ok (.iaload, 1) := by decide +kernel
theorem dX6_isAsTold_48 : decode cX6_isAsTold 48 = .ok (.aload_n 0, 1) := by decide +kernel
theorem dX6_isAsTold_49 : decode cX6_isAsTold 49 = .ok (.getfield 18, 3) := by decide +kernel
theorem dX6_isAsTold_52 : decode cX6_isAsTold 52 = .ok (.iconst 2, 1) := by decide +kernel
theorem dX6_isAsTold_53 : decode cX6_isAsTold 53 = .ok (.iaload, 1) := by decide +kernel
theorem dX6_isAsTold_54 : decode cX6_isAsTold 54 = .ok (.invokevirtual 86, 3) := by decide +kernel
theorem dX6_isAsTold_57 : decode cX6_isAsTold 57 = .ok (.ireturn, 1) := by decide +kernel
theorem dX6_isAsTold_58 : decode cX6_isAsTold 58 = .ok (.aload_n 0, 1) := by decide +kernel
theorem dX6_isAsTold_59 : decode cX6_isAsTold 59 = .ok (.getfield 12, 3) := by decide +kernel
theorem dX6_isAsTold_62 : decode cX6_isAsTold 62 = .ok (.aload_n 0, 1) := by decide +kernel
theorem dX6_isAsTold_63 : decode cX6_isAsTold 63 = .ok (.getfield 18, 3) := by decide +kernel
theorem dX6_isAsTold_66 : decode cX6_isAsTold 66 = .ok (.aload_n 0, 1) := by decide +kernel
theorem dX6_isAsTold_67 : decode cX6_isAsTold 67 = .ok (.getfield 61, 3) := by decide +kernel
theorem dX6_isAsTold_70 : decode cX6_isAsTold 70 = .ok (.invokevirtual 90, 3) := by decide +kernel
theorem dX6_isAsTold_73 : decode cX6_isAsTold 73 = .ok (.ireturn, 1) := by decide +kernel
theorem dX6_isAsTold_74 : decode cX6_isAsTold 74 = .ok (.aload_n 0, 1) := by decide +kernel
theorem dX6_isAsTold_75 : decode cX6_isAsTold 75 = .ok (.getfield 12, 3) := by decide +kernel
theorem dX6_isAsTold_78 : decode cX6_isAsTold 78 = .ok (.aload_n 0, 1) := by decide +kernel
theorem dX6_isAsTold_79 : decode cX6_isAsTold 79 = .ok (.getfield 18, 3) := by decide +kernel
theorem dX6_isAsTold_82 : decode cX6_isAsTold 82 = .ok (.iconst 0, 1) := by decide +kernel
theorem dX6_isAsTold_83 : decode cX6_isAsTold 83 = .ok (.iaload, 1) := by decide +kernel
theorem dX6_isAsTold_84 : decode cX6_isAsTold 84 = .ok (.aload_n 0, 1) := by decide +kernel
theorem dX6_isAsTold_85 : decode cX6_isAsTold 85 = .ok (.getfield 18, 3) := by decide +kernel
theorem dX6_isAsTold_88 : decode cX6_isAsTold 88 = .ok (.iconst 1, 1) := by decide +kernel
theorem dX6_isAsTold_89 : decode cX6_isAsTold 89 = .ok (.iaload, 1) := by decide +kernel
theorem dX6_isAsTold_90 : decode cX6_isAsTold 90 = .ok (.invokevirtual 94, 3) := by decide +kernel
theorem dX6_isAsTold_93 : decode cX6_isAsTold 93 = .ok (.ireturn, 1) := by decide +kernel

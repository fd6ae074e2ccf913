theorem dX3_worth_16 : decode cX3_worth 16 = .ok (.aload_n 0, 1) := by decide +kernel
theorem dX3_worth_17 : decode cX3_worth 17 = .ok (.iload_n 1, 1) := by decide +kernel
theorem dX3_worth_18 : decode cX3_worth 18 = .ok (.iload 5, 2) := by decide +kernel
theorem dX3_worth_20 : decode cX3_worth 20 = .ok (.invokevirtual 110, 3) := by decide +kernel
theorem dX3_worth_23 : decode cX3_worth 23 = .ok (.ladd, 1) := by decide +kernel
theorem dX3_worth_24 : decode cX3_worth 24 = .ok (.ldc2_w 105, 3) := by decide +kernel
theorem dX3_worth_27 : decode cX3_worth 27 = .ok (.lmul, 1) := by decide +kernel
theorem dX3_worth_28 : decode cX3_worth 28 = .ok (.ldc2_w 105, 3) := by decide +kernel
theorem dX3_worth_31 : decode cX3_worth 31 = .ok (.iload_n 2, 1) := by decide +kernel
theorem dX3_worth_32 : decode cX3_worth 32 = .ok (.i2l, 1) := by decide +kernel
theorem dX3_worth_33 : decode cX3_worth 33 = .ok (.ladd, 1) := by decide +kernel
theorem dX3_worth_34 : decode cX3_worth 34 = .ok (.ldiv, 1) := by decide +kernel
theorem dX3_worth_35 : decode cX3_worth 35 = .ok (.lstore_n 3, 1) := by decide +kernel
theorem dX3_worth_36 : decode cX3_worth 36 = .ok (.iinc 5 (-1), 3) := by decide +kernel
theorem dX3_worth_39 : decode cX3_worth 39 = .ok (.goto (-29), 3) := by decide +kernel
theorem dX3_worth_42 : decode cX3_worth 42 = .ok (.lload_n 3, 1) := by decide +kernel
theorem dX3_worth_43 : decode cX3_worth 43 = .ok (.lreturn, 1) := by decide +kernel
set_option maxRecDepth 20000 in
theorem ggX3_price1_X3_of1 : GoodIn wsX3_price1 wsX3_of1 := goodIn_r _ [5, 6, 25, 26, 27, 28, 29, 30, 31, 32, 33, 34, 35, 36, 37, 38, 39, 40, 41, 42, 43, 44] (by decide +kernel) (by decide +kernel)
set_option maxRecDepth 20000 in
theorem gX3_price1_X3_of1 : GoodIn wsX3_price1 (wsV RX3 95 RX3 yX3_of1 wsX3_of1) := goodIn_app (goodIn_of _ (by decide +kernel)) ggX3_price1_X3_of1
set_option maxRecDepth 20000 in
theorem ggX3_price1_X3_worth : GoodIn wsX3_price1 wsX3_worth := goodIn_r _ [10, 11, 1, 2, 3, 4, 5, 6, 12, 13, 14, 15, 16, 17, 18, 19, 20, 21, 22, 23, 24, 25, 26, 27, 28, 29, 30, 31, 32, 33, 34, 35, 36, 37, 38, 39, 40, 41, 42, 43, 44] (by decide +kernel) (by decide +kernel)
set_option maxRecDepth 20000 in
theorem gX3_price1_X3_worth : GoodIn wsX3_price1 (wsV RX3 113 RX3 yX3_worth wsX3_worth) := goodIn_app (goodIn_of _ (by decide +kernel)) ggX3_price1_X3_worth
theorem dX3_price1_0 : decode cX3_price1 0 = .ok (.iload_n 2, 1) := by decide +kernel
theorem dX3_price1_1 : decode cX3_price1 1 = .ok (.aload_n 0, 1) := by decide +kernel
theorem dX3_price1_2 : decode cX3_price1 2 = .ok (.iload_n 1, 1) := by decide +kernel
theorem dX3_price1_3 : decode cX3_price1 3 = .ok (.iconst 4, 1) := by decide +kernel
theorem dX3_price1_4 : decode cX3_price1 4 = .ok (.invokevirtual 95, 3) := by decide +kernel
theorem dX3_price1_7 : decode cX3_price1 7 = .ok (.iadd, 1) := by decide +kernel
theorem dX3_price1_8 : decode cX3_price1 8 = .ok (.istore_n 3, 1) := by decide +kernel
theorem dX3_price1_9 : decode cX3_price1 9 = .ok (.aload_n 0, 1) := by decide +kernel
theorem dX3_price1_10 : decode cX3_price1 10 = .ok (.iload_n 1, 1) := by decide +kernel
theorem dX3_price1_11 : decode cX3_price1 11 = .ok (.iload_n 3, 1) := by decide +kernel
theorem dX3_price1_12 : decode cX3_price1 12 = .ok (.ifCond .ge 7, 3) := by decide +kernel
theorem dX3_price1_15 : decode cX3_price1 15 = .ok (.iconst 0, 1) := by decide +kernel
theorem dX3_price1_16 : decode cX3_price1 16 = .ok (.goto 4, 3) := by decide +kernel
theorem dX3_price1_19 : decode cX3_price1 19 = .ok (.iload_n 3, 1) := by decide +kernel
theorem dX3_price1_20 : decode cX3_price1 20 = .ok (.invokevirtual 113, 3) := by decide +kernel
theorem dX3_price1_23 : decode cX3_price1 23 = .ok (.lreturn, 1) := by decide +kernel
set_option maxRecDepth 20000 in
theorem ggX3_factor_X3_worth : GoodIn wsX3_factor wsX3_worth := goodIn_r _ [7, 2, 8, 9, 10, 6, 11, 12, 13, 14, 15, 16, 17, 18, 19, 20, 21, 22, 23, 24, 25, 26, 27, 28, 29, 30, 31, 32, 33, 34, 35, 36, 37, 38, 39, 40, 41, 42, 43, 44, 45] (by decide +kernel) (by decide +kernel)
set_option maxRecDepth 20000 in
theorem gX3_factor_X3_worth : GoodIn wsX3_factor (wsV RX3 113 RX3 yX3_worth wsX3_worth) := goodIn_app (goodIn_of _ (by decide +kernel)) ggX3_factor_X3_worth
theorem dX3_factor_0 : decode cX3_factor 0 = .ok (.aload_n 0, 1) := by decide +kernel
theorem dX3_factor_1 : decode cX3_factor 1 = .ok (.iload_n 1, 1) := by decide +kernel
theorem dX3_factor_2 : decode cX3_factor 2 = .ok (.aload_n 0, 1) := by decide +kernel
theorem dX3_factor_3 : decode cX3_factor 3 = .ok (.getfield 13, 3) := by decide +kernel
theorem dX3_factor_6 : decode cX3_factor 6 = .ok (.invokevirtual 113, 3) := by decide +kernel
theorem dX3_factor_9 : decode cX3_factor 9 = .ok (.ldc2_w 105, 3) := by decide +kernel
theorem dX3_factor_12 : decode cX3_factor 12 = .ok (.ldiv, 1) := by decide +kernel
theorem dX3_factor_13 : decode cX3_factor 13 = .ok (.lreturn, 1) := by decide +kernel
set_option maxRecDepth 20000 in
theorem ggX3_isEligible_X3_of1 : GoodIn wsX3_isEligible wsX3_of1 := goodIn_r _ [9, 10, 37, 38, 39, 40, 41, 42, 43, 44, 45, 46, 47, 48, 49, 50, 51, 52, 53, 54, 55, 56] (by decide +kernel) (by decide +kernel)
set_option maxRecDepth 20000 in
theorem gX3_isEligible_X3_of1 : GoodIn wsX3_isEligible (wsV RX3 95 RX3 yX3_of1 wsX3_of1) := goodIn_app (goodIn_of _ (by decide +kernel)) ggX3_isEligible_X3_of1
set_option maxRecDepth 20000 in
theorem ggX3_isEligible_X3_isIn : GoodIn wsX3_isEligible wsX3_isIn := goodIn_r _ [13] (by decide +kernel) (by decide +kernel)
set_option maxRecDepth 20000 in
theorem gX3_isEligible_X3_isIn : GoodIn wsX3_isEligible (va_wsS RX3 67 yX3_isIn wsX3_isIn) := goodIn_app (goodIn_of _ (by decide +kernel)) ggX3_isEligible_X3_isIn
set_option maxRecDepth 20000 in
theorem ggX3_isEligible_X3_factor : GoodIn wsX3_isEligible wsX3_factor := goodIn_r _ [17, 18, 19, 20, 21, 22, 8, 23, 5, 6, 7, 9, 10, 24, 25, 26, 27, 28, 29, 30, 31, 32, 33, 34, 35, 36, 37, 38, 39, 40, 41, 42, 43, 44, 45, 46, 47, 48, 49, 50, 51, 52, 53, 54, 55, 56] (by decide +kernel) (by decide +kernel)
set_option maxRecDepth 20000 in
theorem gX3_isEligible_X3_factor : GoodIn wsX3_isEligible (wsV RX3 116 RX3 yX3_factor wsX3_factor) := goodIn_app (goodIn_of _ (by decide +kernel)) ggX3_isEligible_X3_factor
theorem dX3_isEligible_0 : decode cX3_isEligible 0 = .ok (.aload_n 0, 1) := by decide +kernel
theorem dX3_isEligible_1 : decode cX3_isEligible 1 = .ok (.getfield 33, 3) := by decide +kernel
theorem dX3_isEligible_4 : decode cX3_isEligible 4 = .ok (.iconst (-1), 1) := by decide +kernel
theorem dX3_isEligible_5 : decode cX3_isEligible 5 = .ok (.if_icmp .eq 11, 3) := by decide +kernel
theorem dX3_isEligible_8 : decode cX3_isEligible 8 = .ok (.iload_n 1, 1) := by decide +kernel
theorem dX3_isEligible_9 : decode cX3_isEligible 9 = .ok (.aload_n 0, 1) := by decide +kernel
theorem dX3_isEligible_10 : decode cX3_isEligible 10 = .ok (.getfield 33, 3) := by decide +kernel
theorem dX3_isEligible_13 : decode cX3_isEligible 13 = .ok (.if_icmp .ne 11, 3) := by decide +kernel
theorem dX3_isEligible_16 : decode cX3_isEligible 16 = .ok (.iload_n 1, 1) := by decide +kernel
theorem dX3_isEligible_17 : decode cX3_isEligible 17 = .ok (.aload_n 0, 1) := by decide +kernel
theorem dX3_isEligible_18 : decode cX3_isEligible 18 = .ok (.getfield 36, 3) := by decide +kernel
theorem dX3_isEligible_21 : decode cX3_isEligible 21 = .ok (.if_icmp .ne 5, 3) := by decide +kernel
theorem dX3_isEligible_24 : decode cX3_isEligible 24 = .ok (.iconst 0, 1) := by decide +kernel
theorem dX3_isEligible_25 : decode cX3_isEligible 25 = .ok (.ireturn, 1) := by decide +kernel
theorem dX3_isEligible_26 : decode cX3_isEligible 26 = .ok (.aload_n 0, 1) := by decide +kernel
theorem dX3_isEligible_27 : decode cX3_isEligible 27 = .ok (.iload_n 1, 1) := by decide +kernel
theorem dX3_isEligible_28 : decode cX3_isEligible 28 = .ok (.bipush 6, 2) := by decide +kernel
theorem dX3_isEligible_30 : decode cX3_isEligible 30 = .ok (.invokevirtual 95, 3) := by decide +kernel
theorem dX3_isEligible_33 : decode cX3_isEligible 33 = .ok (.ifCond .ne 40, 3) := by decide +kernel
theorem dX3_isEligible_36 : decode cX3_isEligible 36 = .ok (.aload_n 0, 1) := by decide +kernel
theorem dX3_isEligible_37 : decode cX3_isEligible 37 = .ok (.iload_n 1, 1) := by decide +kernel
theorem dX3_isEligible_38 : decode cX3_isEligible 38 = .ok (.iconst 2, 1) := by decide +kernel
theorem dX3_isEligible_39 : decode cX3_isEligible 39 = .ok (.invokevirtual 95, 3) := by decide +kernel
theorem dX3_isEligible_42 : decode cX3_isEligible 42 = .ok (.i2l, 1) := by decide +kernel
theorem dX3_isEligible_43 : decode cX3_isEligible 43 = .ok (.aload_n 0, 1) := by decide +kernel
theorem dX3_isEligible_44 : decode cX3_isEligible 44 = .ok (.getfield 17, 3) := by decide +kernel
theorem dX3_isEligible_47 : decode cX3_isEligible 47 = .ok (.i2l, 1) := by decide +kernel
theorem dX3_isEligible_48 : decode cX3_isEligible 48 = .ok (.aload_n 0, 1) := by decide +kernel
theorem dX3_isEligible_49 : decode cX3_isEligible 49 = .ok (.getfield 20, 3) := by decide +kernel
theorem dX3_isEligible_52 : decode cX3_isEligible 52 = .ok (.i2l, 1) := by decide +kernel
theorem dX3_isEligible_53 : decode cX3_isEligible 53 = .ok (.invokestatic 67, 3) := by decide +kernel
theorem dX3_isEligible_56 : decode cX3_isEligible 56 = .ok (.ifCond .eq 17, 3) := by decide +kernel
theorem dX3_isEligible_59 : decode cX3_isEligible 59 = .ok (.aload_n 0, 1) := by decide +kernel
theorem dX3_isEligible_60 : decode cX3_isEligible 60 = .ok (.iload_n 1, 1) := by decide +kernel
theorem dX3_isEligible_61 : decode cX3_isEligible 61 = .ok (.invokevirtual 116, 3) := by decide +kernel
theorem dX3_isEligible_64 : decode cX3_isEligible 64 = .ok (.lconst 0, 1) := by decide +kernel
theorem dX3_isEligible_65 : decode cX3_isEligible 65 = .ok (.lcmp, 1) := by decide +kernel
theorem dX3_isEligible_66 : decode cX3_isEligible 66 = .ok (.ifCond .le 7, 3) := by decide +kernel
theorem dX3_isEligible_69 : decode cX3_isEligible 69 = .ok (.iconst 1, 1) := by decide +kernel
theorem dX3_isEligible_70 : decode cX3_isEligible 70 = .ok (.goto 4, 3) := by decide +kernel
theorem dX3_isEligible_73 : decode cX3_isEligible 73 = .ok (.iconst 0, 1) := by decide +kernel
theorem dX3_isEligible_74 : decode cX3_isEligible 74 = .ok (.ireturn, 1) := by decide +kernel
set_option maxRecDepth 20000 in
theorem ggX3_eligible_X3_isEligible : GoodIn wsX3_eligible wsX3_isEligible := goodIn_r _ [6, 7, 8, 9, 10, 11, 12, 13, 5, 14, 15, 16, 17, 18, 19, 20, 21, 22, 23, 24, 25, 26, 27, 28, 29, 30, 31, 32, 33, 34, 35, 36, 37, 38, 39, 40, 41, 42, 43, 44, 45, 46, 47, 48, 49, 50, 51, 52, 53, 54, 55, 56, 57, 58, 59, 60, 61] (by decide +kernel) (by decide +kernel)
set_option maxRecDepth 20000 in
theorem gX3_eligible_X3_isEligible : GoodIn wsX3_eligible (wsV RX3 120 RX3 yX3_isEligible wsX3_isEligible) := goodIn_app (goodIn_of _ (by decide +kernel)) ggX3_eligible_X3_isEligible
theorem dX3_eligible_0 : decode cX3_eligible 0 = .ok (.iconst 0, 1) := by decide +kernel
theorem dX3_eligible_1 : decode cX3_eligible 1 = .ok (.istore_n 1, 1) := by decide +kernel
theorem dX3_eligible_2 : decode cX3_eligible 2 = .ok (.iconst 0, 1) := by decide +kernel
theorem dX3_eligible_3 : decode cX3_eligible 3 = .ok (.istore_n 2, 1) := by decide +kernel
theorem dX3_eligible_4 : decode cX3_eligible 4 = .ok (.iload_n 2, 1) := by decide +kernel
theorem dX3_eligible_5 : decode cX3_eligible 5 = .ok (.aload_n 0, 1) := by decide +kernel
theorem dX3_eligible_6 : decode cX3_eligible 6 = .ok (.getfield 64, 3) := by decide +kernel
theorem dX3_eligible_9 : decode cX3_eligible 9 = .ok (.if_icmp .ge 27, 3) := by decide +kernel
theorem dX3_eligible_12 : decode cX3_eligible 12 = .ok (.iload_n 1, 1) := by decide +kernel
theorem dX3_eligible_13 : decode cX3_eligible 13 = .ok (.aload_n 0, 1) := by decide +kernel
theorem dX3_eligible_14 : decode cX3_eligible 14 = .ok (.iload_n 2, 1) := by decide +kernel
theorem dX3_eligible_15 : decode cX3_eligible 15 = .ok (.invokevirtual 120, 3) := by decide +kernel
theorem dX3_eligible_18 : decode cX3_eligible 18 = .ok (.ifCond .eq 9, 3) := by decide +kernel
theorem dX3_eligible_21 : decode cX3_eligible 21 = .ok (.iconst 1, 1) := by decide +kernel
theorem dX3_eligible_22 : decode cX3_eligible 22 = .ok (.iload_n 2, 1) := by decide +kernel
theorem dX3_eligible_23 : decode cX3_eligible 23 = .ok (.ishl, 1) := by decide +kernel
theorem dX3_eligible_24 : decode cX3_eligible 24 = .ok (.goto 4, 3) := by decide +kernel
theorem dX3_eligible_27 : decode cX3_eligible 27 = .ok (.iconst 0, 1) := by decide +kernel
theorem dX3_eligible_28 : decode cX3_eligible 28 = .ok (.ior, 1) := by decide +kernel
theorem dX3_eligible_29 : decode cX3_eligible 29 = .ok (.istore_n 1, 1) := by decide +kernel
theorem dX3_eligible_30 : decode cX3_eligible 30 = .ok (.iinc 2 1, 3) := by decide +kernel
theorem dX3_eligible_33 : decode cX3_eligible 33 = .ok (.goto (-29), 3) := by decide +kernel
theorem dX3_eligible_36 : decode cX3_eligible 36 = .ok (.iload_n 1, 1) := by decide +kernel
theorem dX3_eligible_37 : decode cX3_eligible 37 = .ok (.ireturn, 1) := by decide +kernel
set_option maxRecDepth 20000 in
theorem ggX3_isAny_X3_eligible : GoodIn wsX3_isAny wsX3_eligible := goodIn_r _ [5, 6, 7, 8, 9, 4, 10, 11, 12, 13, 14, 15, 16, 17, 18, 19, 20, 21, 22, 23, 24, 25, 26, 27, 28, 29, 30, 31, 32, 33, 34, 35, 36, 37, 38, 39, 40, 41, 42, 43, 44, 45, 46, 47, 48, 49, 50, 51, 52, 53, 54, 55, 56, 57, 58, 59, 60, 61, 62, 63, 64, 65] (by decide +kernel) (by decide +kernel)
set_option maxRecDepth 20000 in
theorem gX3_isAny_X3_eligible : GoodIn wsX3_isAny (wsV RX3 123 RX3 yX3_eligible wsX3_eligible) := goodIn_app (goodIn_of _ (by decide +kernel)) ggX3_isAny_X3_eligible
theorem dX3_isAny_0 : decode cX3_isAny 0 = .ok (.aload_n 0, 1) := by decide +kernel
theorem dX3_isAny_1 : decode cX3_isAny 1 = .ok (.invokevirtual 123, 3) := by decide +kernel
theorem dX3_isAny_4 : decode cX3_isAny 4 = .ok (.ifCond .eq 7, 3) := by decide +kernel
theorem dX3_isAny_7 : decode cX3_isAny 7 = .ok (.iconst 1, 1) := by decide +kernel
theorem dX3_isAny_8 : decode cX3_isAny 8 = .ok (.goto 4, 3) := by decide +kernel
theorem dX3_isAny_11 : decode cX3_isAny 11 = .ok (.iconst 0, 1) := by decide +kernel
theorem dX3_isAny_12 : decode cX3_isAny 12 = .ok (.ireturn, 1) := by decide +kernel
set_option maxRecDepth 20000 in
theorem ggX3_of_X3_isBond : GoodIn wsX3_of wsX3_isBond := goodIn_r _ [6, 7, 8, 9, 5, 10, 51, 52, 53, 54, 55, 56, 57, 58, 59, 60, 61, 62, 63, 64, 65, 66, 67, 68, 69, 70] (by decide +kernel) (by decide +kernel)
set_option maxRecDepth 20000 in
theorem gX3_of_X3_isBond : GoodIn wsX3_of (wsV RX3 87 RX3 yX3_isBond wsX3_isBond) := goodIn_app (goodIn_of _ (by decide +kernel)) ggX3_of_X3_isBond
set_option maxRecDepth 20000 in
theorem ggX3_of_X3_refuse : GoodIn wsX3_of wsX3_refuse := goodIn_r _ [14, 1, 51, 52, 53, 54, 55, 56, 57, 58, 59, 60, 61, 62, 63, 64, 65, 66, 67, 68, 69, 70] (by decide +kernel) (by decide +kernel)
set_option maxRecDepth 20000 in
theorem gX3_of_X3_refuse : GoodIn wsX3_of (wsV RX3 127 RX3 yX3_refuse wsX3_refuse) := goodIn_app (goodIn_of _ (by decide +kernel)) ggX3_of_X3_refuse
set_option maxRecDepth 20000 in
theorem ggX3_of_X3_of1 : GoodIn wsX3_of wsX3_of1 := goodIn_r _ [18, 19, 51, 52, 53, 54, 55, 56, 57, 58, 59, 60, 61, 62, 63, 64, 65, 66, 67, 68, 69, 70] (by decide +kernel) (by decide +kernel)
set_option maxRecDepth 20000 in
theorem gX3_of_X3_of1 : GoodIn wsX3_of (wsV RX3 95 RX3 yX3_of1 wsX3_of1) := goodIn_app (goodIn_of _ (by decide +kernel)) ggX3_of_X3_of1
set_option maxRecDepth 20000 in
theorem ggX3_of_X3_factor : GoodIn wsX3_of wsX3_factor := goodIn_r _ [23, 24, 25, 26, 27, 28, 5, 29, 15, 16, 17, 18, 19, 30, 31, 32, 33, 34, 35, 36, 37, 38, 39, 40, 41, 42, 51, 52, 53, 54, 55, 56, 57, 58, 59, 60, 61, 62, 63, 64, 65, 66, 67, 68, 69, 70] (by decide +kernel) (by decide +kernel)
set_option maxRecDepth 20000 in
theorem gX3_of_X3_factor : GoodIn wsX3_of (wsV RX3 116 RX3 yX3_factor wsX3_factor) := goodIn_app (goodIn_of _ (by decide +kernel)) ggX3_of_X3_factor
set_option maxRecDepth 20000 in
theorem ggX3_of_X3_isEligible : GoodIn wsX3_of wsX3_isEligible := goodIn_r _ [46, 47, 48, 49, 50, 15, 16, 17, 5, 18, 19, 8, 9, 10, 20, 21, 22, 23, 24, 25, 26, 27, 28, 29, 30, 31, 32, 33, 34, 35, 36, 37, 38, 39, 40, 41, 42, 51, 52, 53, 54, 55, 56, 57, 58, 59, 60, 61, 62, 63, 64, 65, 66, 67, 68, 69, 70] (by decide +kernel) (by decide +kernel)
set_option maxRecDepth 20000 in
theorem gX3_of_X3_isEligible : GoodIn wsX3_of (wsV RX3 120 RX3 yX3_isEligible wsX3_isEligible) := goodIn_app (goodIn_of _ (by decide +kernel)) ggX3_of_X3_isEligible
theorem dX3_of_0 : decode cX3_of 0 = .ok (.aload_n 0, 1) := by decide +kernel
theorem dX3_of_1 : decode cX3_of 1 = .ok (.iconst 0, 1) := by decide +kernel
theorem dX3_of_2 : decode cX3_of 2 = .ok (.putfield 61, 3) := by decide +kernel
theorem dX3_of_5 : decode cX3_of 5 = .ok (.aload_n 0, 1) := by decide +kernel
theorem dX3_of_6 : decode cX3_of 6 = .ok (.iload_n 1, 1) := by decide +kernel
theorem dX3_of_7 : decode cX3_of 7 = .ok (.invokevirtual 87, 3) := by decide +kernel
theorem dX3_of_10 : decode cX3_of 10 = .ok (.ifCond .ne 8, 3) := by decide +kernel
theorem dX3_of_13 : decode cX3_of 13 = .ok (.aload_n 0, 1) := by decide +kernel
theorem dX3_of_14 : decode cX3_of 14 = .ok (.invokevirtual 127, 3) := by decide +kernel
theorem dX3_of_17 : decode cX3_of 17 = .ok (.ireturn, 1) := by decide +kernel
theorem dX3_of_18 : decode cX3_of 18 = .ok (.iload_n 2, 1) := by decide +kernel
theorem dX3_of_19 : decode cX3_of 19 = .ok (.tableswitch 77 0 8 #[49, 49, 49, 49, 49, 49, 49, 56, 63], 49) := by decide +kernel
theorem dX3_of_68 : decode cX3_of 68 = .ok (.aload_n 0, 1) := by decide +kernel
theorem dX3_of_69 : decode cX3_of 69 = .ok (.iload_n 1, 1) := by decide +kernel
theorem dX3_of_70 : decode cX3_of 70 = .ok (.iload_n 2, 1) := by decide +kernel
theorem dX3_of_71 : decode cX3_of 71 = .ok (.invokevirtual 95, 3) := by decide +kernel
theorem dX3_of_74 : decode cX3_of 74 = .ok (.ireturn, 1) := by decide +kernel
theorem dX3_of_75 : decode cX3_of 75 = .ok (.aload_n 0, 1) := by decide +kernel
theorem dX3_of_76 : decode cX3_of 76 = .ok (.iload_n 1, 1) := by decide +kernel
theorem dX3_of_77 : decode cX3_of 77 = .ok (.invokevirtual 116, 3) := by decide +kernel
theorem dX3_of_80 : decode cX3_of 80 = .ok (.l2i, 1) := by decide +kernel
theorem dX3_of_81 : decode cX3_of 81 = .ok (.ireturn, 1) := by decide +kernel
theorem dX3_of_82 : decode cX3_of 82 = .ok (.aload_n 0, 1) := by decide +kernel
theorem dX3_of_83 : decode cX3_of 83 = .ok (.iload_n 1, 1) := by decide +kernel
theorem dX3_of_84 : decode cX3_of 84 = .ok (.invokevirtual 120, 3) := by decide +kernel
theorem dX3_of_87 : decode cX3_of 87 = .ok (.ifCond .eq 7, 3) := by decide +kernel
theorem dX3_of_90 : decode cX3_of 90 = .ok (.iconst 1, 1) := by decide +kernel
theorem dX3_of_91 : decode cX3_of 91 = .ok (.goto 4, 3) := by decide +kernel
theorem dX3_of_94 : decode cX3_of 94 = .ok (.iconst 0, 1) := by decide +kernel
theorem dX3_of_95 : decode cX3_of 95 = .ok (.ireturn, 1) := by decide +kernel
theorem dX3_of_96 : decode cX3_of 96 = .ok (.aload_n 0, 1) := by decide +kernel
theorem dX3_of_97 : decode cX3_of 97 = .ok (.invokevirtual 127, 3) := by decide +kernel
theorem dX3_of_100 : decode cX3_of 100 = .ok (.ireturn, 1) := by decide +kernel
set_option maxRecDepth 20000 in
theorem ggX3_flow_X3_isBond : GoodIn wsX3_flow wsX3_isBond := goodIn_r _ [6, 7, 8, 9, 5, 10, 30, 31, 32, 33, 34, 35, 36, 37, 38, 39, 40, 41, 42, 43, 44, 45, 46, 47, 48, 49] (by decide +kernel) (by decide +kernel)
set_option maxRecDepth 20000 in
theorem gX3_flow_X3_isBond : GoodIn wsX3_flow (wsV RX3 87 RX3 yX3_isBond wsX3_isBond) := goodIn_app (goodIn_of _ (by decide +kernel)) ggX3_flow_X3_isBond
set_option maxRecDepth 20000 in
theorem ggX3_flow_X3_of1 : GoodIn wsX3_flow wsX3_of1 := goodIn_r _ [14, 15, 30, 31, 32, 33, 34, 35, 36, 37, 38, 39, 40, 41, 42, 43, 44, 45, 46, 47, 48, 49] (by decide +kernel) (by decide +kernel)
set_option maxRecDepth 20000 in
theorem gX3_flow_X3_of1 : GoodIn wsX3_flow (wsV RX3 95 RX3 yX3_of1 wsX3_of1) := goodIn_app (goodIn_of _ (by decide +kernel)) ggX3_flow_X3_of1
set_option maxRecDepth 20000 in
theorem ggX3_flow_X3_isIn : GoodIn wsX3_flow wsX3_isIn := goodIn_r _ [10] (by decide +kernel) (by decide +kernel)
set_option maxRecDepth 20000 in
theorem gX3_flow_X3_isIn : GoodIn wsX3_flow (va_wsS RX3 67 yX3_isIn wsX3_isIn) := goodIn_app (goodIn_of _ (by decide +kernel)) ggX3_flow_X3_isIn
set_option maxRecDepth 20000 in
theorem ggX3_flow_X3_flow1 : GoodIn wsX3_flow wsX3_flow1 := goodIn_r _ [19, 20, 11, 12, 13, 5, 14, 15, 21, 22, 23, 24, 25, 26, 27, 28, 29, 30, 31, 32, 33, 34, 35, 36, 37, 38, 39, 40, 41, 42, 43, 44, 45, 46, 47, 48, 49] (by decide +kernel) (by decide +kernel)
set_option maxRecDepth 20000 in
theorem gX3_flow_X3_flow1 : GoodIn wsX3_flow (wsV RX3 110 RX3 yX3_flow1 wsX3_flow1) := goodIn_app (goodIn_of _ (by decide +kernel)) ggX3_flow_X3_flow1
theorem dX3_flow_0 : decode cX3_flow 0 = .ok (.aload_n 0, 1) := by decide +kernel
theorem dX3_flow_1 : decode cX3_flow 1 = .ok (.iconst 0, 1) := by decide +kernel
theorem dX3_flow_2 : decode cX3_flow 2 = .ok (.putfield 61, 3) := by decide +kernel
theorem dX3_flow_5 : decode cX3_flow 5 = .ok (.aload_n 0, 1) := by decide +kernel
theorem dX3_flow_6 : decode cX3_flow 6 = .ok (.iload_n 1, 1) := by decide +kernel
theorem dX3_flow_7 : decode cX3_flow 7 = .ok (.invokevirtual 87, 3) := by decide +kernel
theorem dX3_flow_10 : decode cX3_flow 10 = .ok (.ifCond .eq 29, 3) := by decide +kernel
theorem dX3_flow_13 : decode cX3_flow 13 = .ok (.iload_n 2, 1) := by decide +kernel
theorem dX3_flow_14 : decode cX3_flow 14 = .ok (.i2l, 1) := by decide +kernel
theorem dX3_flow_15 : decode cX3_flow 15 = .ok (.lconst 1, 1) := by decide +kernel
theorem dX3_flow_16 : decode cX3_flow 16 = .ok (.aload_n 0, 1) := by decide +kernel
theorem dX3_flow_17 : decode cX3_flow 17 = .ok (.iload_n 1, 1) := by decide +kernel
theorem dX3_flow_18 : decode cX3_flow 18 = .ok (.iconst 2, 1) := by decide +kernel
theorem dX3_flow_19 : decode cX3_flow 19 = .ok (.invokevirtual 95, 3) := by decide +kernel
theorem dX3_flow_22 : decode cX3_flow 22 = .ok (.i2l, 1) := by decide +kernel
theorem dX3_flow_23 : decode cX3_flow 23 = .ok (.invokestatic 67, 3) := by decide +kernel
theorem dX3_flow_26 : decode cX3_flow 26 = .ok (.ifCond .eq 13, 3) := by decide +kernel
theorem dX3_flow_29 : decode cX3_flow 29 = .ok (.aload_n 0, 1) := by decide +kernel
theorem dX3_flow_30 : decode cX3_flow 30 = .ok (.iload_n 1, 1) := by decide +kernel
theorem dX3_flow_31 : decode cX3_flow 31 = .ok (.iload_n 2, 1) := by decide +kernel
theorem dX3_flow_32 : decode cX3_flow 32 = .ok (.invokevirtual 110, 3) := by decide +kernel
theorem dX3_flow_35 : decode cX3_flow 35 = .ok (.l2i, 1) := by decide +kernel
theorem dX3_flow_36 : decode cX3_flow 36 = .ok (.goto 4, 3) := by decide +kernel
theorem dX3_flow_39 : decode cX3_flow 39 = .ok (.iconst (-1), 1) := by decide +kernel
theorem dX3_flow_40 : decode cX3_flow 40 = .ok (.ireturn, 1) := by decide +kernel
set_option maxRecDepth 20000 in
theorem ggX3_isRate_X3_isIn : GoodIn wsX3_isRate wsX3_isIn := goodIn_r _ [5] (by decide +kernel) (by decide +kernel)
set_option maxRecDepth 20000 in
theorem gX3_isRate_X3_isIn : GoodIn wsX3_isRate (va_wsS RX3 67 yX3_isIn wsX3_isIn) := goodIn_app (goodIn_of _ (by decide +kernel)) ggX3_isRate_X3_isIn
theorem dX3_isRate_0 : decode cX3_isRate 0 = .ok (.iload_n 0, 1) := by decide +kernel
theorem dX3_isRate_1 : decode cX3_isRate 1 = .ok (.i2l, 1) := by decide +kernel
theorem dX3_isRate_2 : decode cX3_isRate 2 = .ok (.lconst 0, 1) := by decide +kernel
theorem dX3_isRate_3 : decode cX3_isRate 3 = .ok (.ldc2_w 130, 3) := by decide +kernel
theorem dX3_isRate_6 : decode cX3_isRate 6 = .ok (.invokestatic 67, 3) := by decide +kernel
theorem dX3_isRate_9 : decode cX3_isRate 9 = .ok (.ireturn, 1) := by decide +kernel
set_option maxRecDepth 20000 in
theorem ggX3_price_X3_isBond : GoodIn wsX3_price wsX3_isBond := goodIn_r _ [6, 7, 8, 9, 5, 10, 42, 43, 44, 45, 46, 47, 48, 49, 50, 51, 52, 53, 54, 55, 56, 57, 58, 59, 60, 61] (by decide +kernel) (by decide +kernel)
set_option maxRecDepth 20000 in
theorem gX3_price_X3_isBond : GoodIn wsX3_price (wsV RX3 87 RX3 yX3_isBond wsX3_isBond) := goodIn_app (goodIn_of _ (by decide +kernel)) ggX3_price_X3_isBond
set_option maxRecDepth 20000 in
theorem ggX3_price_X3_isRate : GoodIn wsX3_price wsX3_isRate := goodIn_r _ [13, 14, 8, 9, 5, 10] (by decide +kernel) (by decide +kernel)
set_option maxRecDepth 20000 in
theorem gX3_price_X3_isRate : GoodIn wsX3_price (va_wsS RX3 132 yX3_isRate wsX3_isRate) := goodIn_app (goodIn_of _ (by decide +kernel)) ggX3_price_X3_isRate
set_option maxRecDepth 20000 in
theorem ggX3_price_X3_price1 : GoodIn wsX3_price wsX3_price1 := goodIn_r _ [18, 19, 20, 21, 5, 22, 23, 24, 25, 26, 27, 28, 29, 30, 31, 32, 33, 34, 35, 36, 37, 38, 39, 40, 41, 42, 43, 44, 45, 46, 47, 48, 49, 50, 51, 52, 53, 54, 55, 56, 57, 58, 59, 60, 61] (by decide +kernel) (by decide +kernel)
set_option maxRecDepth 20000 in
theorem gX3_price_X3_price1 : GoodIn wsX3_price (wsV RX3 135 RX3 yX3_price1 wsX3_price1) := goodIn_app (goodIn_of _ (by decide +kernel)) ggX3_price_X3_price1
theorem dX3_price_0 : decode cX3_price 0 = .ok (.aload_n 0, 1) := by decide +kernel
theorem dX3_price_1 : decode cX3_price 1 = .ok (.iconst 0, 1) := by decide +kernel
theorem dX3_price_2 : decode cX3_price 2 = .ok (.putfield 61, 3) := by decide +kernel
theorem dX3_price_5 : decode cX3_price 5 = .ok (.aload_n 0, 1) := by decide +kernel
theorem dX3_price_6 : decode cX3_price 6 = .ok (.iload_n 1, 1) := by decide +kernel
theorem dX3_price_7 : decode cX3_price 7 = .ok (.invokevirtual 87, 3) := by decide +kernel
theorem dX3_price_10 : decode cX3_price 10 = .ok (.ifCond .eq 20, 3) := by decide +kernel
theorem dX3_price_13 : decode cX3_price 13 = .ok (.iload_n 2, 1) := by decide +kernel
theorem dX3_price_14 : decode cX3_price 14 = .ok (.invokestatic 132, 3) := by decide +kernel
theorem dX3_price_17 : decode cX3_price 17 = .ok (.ifCond .eq 13, 3) := by decide +kernel
theorem dX3_price_20 : decode cX3_price 20 = .ok (.aload_n 0, 1) := by decide +kernel
theorem dX3_price_21 : decode cX3_price 21 = .ok (.iload_n 1, 1) := by decide +kernel
theorem dX3_price_22 : decode cX3_price 22 = .ok (.iload_n 2, 1) := by decide +kernel
theorem dX3_price_23 : decode cX3_price 23 = .ok (.invokevirtual 135, 3) := by decide +kernel
theorem dX3_price_26 : decode cX3_price 26 = .ok (.l2i, 1) := by decide +kernel
theorem dX3_price_27 : decode cX3_price 27 = .ok (.goto 4, 3) := by decide +kernel
theorem dX3_price_30 : decode cX3_price 30 = .ok (.iconst (-1), 1) := by decide +kernel
theorem dX3_price_31 : decode cX3_price 31 = .ok (.ireturn, 1) := by decide +kernel
set_option maxRecDepth 20000 in
theorem ggX3_rateOf_X3_isBond : GoodIn wsX3_rateOf wsX3_isBond := goodIn_r _ [6, 7, 8, 9, 5, 10, 38, 39, 40, 41, 42, 43, 44, 45, 46, 47, 48, 49, 50, 51, 52, 53, 54, 55, 56, 57] (by decide +kernel) (by decide +kernel)
set_option maxRecDepth 20000 in
theorem gX3_rateOf_X3_isBond : GoodIn wsX3_rateOf (wsV RX3 87 RX3 yX3_isBond wsX3_isBond) := goodIn_app (goodIn_of _ (by decide +kernel)) ggX3_rateOf_X3_isBond
set_option maxRecDepth 20000 in
theorem ggX3_rateOf_X3_price1 : GoodIn wsX3_rateOf wsX3_price1 := goodIn_r _ [14, 15, 16, 17, 5, 18, 19, 20, 21, 22, 23, 24, 25, 26, 27, 28, 29, 30, 31, 32, 33, 34, 35, 36, 37, 38, 39, 40, 41, 42, 43, 44, 45, 46, 47, 48, 49, 50, 51, 52, 53, 54, 55, 56, 57] (by decide +kernel) (by decide +kernel)
set_option maxRecDepth 20000 in
theorem gX3_rateOf_X3_price1 : GoodIn wsX3_rateOf (wsV RX3 135 RX3 yX3_price1 wsX3_price1) := goodIn_app (goodIn_of _ (by decide +kernel)) ggX3_rateOf_X3_price1
theorem dX3_rateOf_0 : decode cX3_rateOf 0 = .ok (.aload_n 0, 1) := by decide +kernel
theorem dX3_rateOf_1 : decode cX3_rateOf 1 = .ok (.iconst 0, 1) := by decide +kernel
theorem dX3_rateOf_2 : decode cX3_rateOf 2 = .ok (.putfield 61, 3) := by decide +kernel
theorem dX3_rateOf_5 : decode cX3_rateOf 5 = .ok (.aload_n 0, 1) := by decide +kernel
theorem dX3_rateOf_6 : decode cX3_rateOf 6 = .ok (.iload_n 1, 1) := by decide +kernel
theorem dX3_rateOf_7 : decode cX3_rateOf 7 = .ok (.invokevirtual 87, 3) := by decide +kernel
theorem dX3_rateOf_10 : decode cX3_rateOf 10 = .ok (.ifCond .ne 5, 3) := by decide +kernel
theorem dX3_rateOf_13 : decode cX3_rateOf 13 = .ok (.iconst (-1), 1) := by decide +kernel
theorem dX3_rateOf_14 : decode cX3_rateOf 14 = .ok (.ireturn, 1) := by decide +kernel
theorem dX3_rateOf_15 : decode cX3_rateOf 15 = .ok (.iconst 0, 1) := by decide +kernel
theorem dX3_rateOf_16 : decode cX3_rateOf 16 = .ok (.istore_n 3, 1) := by decide +kernel
theorem dX3_rateOf_17 : decode cX3_rateOf 17 = .ok (.iload_n 3, 1) := by decide +kernel
theorem dX3_rateOf_18 : decode cX3_rateOf 18 = .ok (.sipush 3000, 3) := by decide +kernel
theorem dX3_rateOf_21 : decode cX3_rateOf 21 = .ok (.if_icmp .gt 23, 3) := by decide +kernel
theorem dX3_rateOf_24 : decode cX3_rateOf 24 = .ok (.aload_n 0, 1) := by decide +kernel
theorem dX3_rateOf_25 : decode cX3_rateOf 25 = .ok (.iload_n 1, 1) := by decide +kernel
theorem dX3_rateOf_26 : decode cX3_rateOf 26 = .ok (.iload_n 3, 1) := by decide +kernel
theorem dX3_rateOf_27 : decode cX3_rateOf 27 = .ok (.invokevirtual 135, 3) := by decide +kernel
theorem dX3_rateOf_30 : decode cX3_rateOf 30 = .ok (.iload_n 2, 1) := by decide +kernel
theorem dX3_rateOf_31 : decode cX3_rateOf 31 = .ok (.i2l, 1) := by decide +kernel
theorem dX3_rateOf_32 : decode cX3_rateOf 32 = .ok (.lcmp, 1) := by decide +kernel
theorem dX3_rateOf_33 : decode cX3_rateOf 33 = .ok (.ifCond .gt 5, 3) := by decide +kernel
theorem dX3_rateOf_36 : decode cX3_rateOf 36 = .ok (.iload_n 3, 1) := by decide +kernel
theorem dX3_rateOf_37 : decode cX3_rateOf 37 = .ok (.ireturn, 1) := by decide +kernel
theorem dX3_rateOf_38 : decode cX3_rateOf 38 = .ok (.iinc 3 1, 3) := by decide +kernel
theorem dX3_rateOf_41 : decode cX3_rateOf 41 = .ok (.goto (-24), 3) := by decide +kernel
theorem dX3_rateOf_44 : decode cX3_rateOf 44 = .ok (.iconst (-1), 1) := by decide +kernel
theorem dX3_rateOf_45 : decode cX3_rateOf 45 = .ok (.ireturn, 1) := by decide +kernel
set_option maxRecDepth 20000 in
theorem ggX3_contract_X3_isRate : GoodIn wsX3_contract wsX3_isRate := goodIn_r _ [9, 10, 11, 12, 8, 13] (by decide +kernel) (by decide +kernel)
set_option maxRecDepth 20000 in
theorem gX3_contract_X3_isRate : GoodIn wsX3_contract (va_wsS RX3 132 yX3_isRate wsX3_isRate) := goodIn_app (goodIn_of _ (by decide +kernel)) ggX3_contract_X3_isRate
set_option maxRecDepth 20000 in
theorem ggX3_contract_X3_isIn : GoodIn wsX3_contract wsX3_isIn := goodIn_r _ [13] (by decide +kernel) (by decide +kernel)
set_option maxRecDepth 20000 in
theorem gX3_contract_X3_isIn : GoodIn wsX3_contract (va_wsS RX3 67 yX3_isIn wsX3_isIn) := goodIn_app (goodIn_of _ (by decide +kernel)) ggX3_contract_X3_isIn
theorem dX3_contract_0 : decode cX3_contract 0 = .ok (.aload_n 0, 1) := by decide +kernel
theorem dX3_contract_1 : decode cX3_contract 1 = .ok (.iconst 0, 1) := by decide +kernel
theorem dX3_contract_2 : decode cX3_contract 2 = .ok (.putfield 61, 3) := by decide +kernel
theorem dX3_contract_5 : decode cX3_contract 5 = .ok (.iload_n 1, 1) := by decide +kernel
theorem dX3_contract_6 : decode cX3_contract 6 = .ok (.invokestatic 132, 3) := by decide +kernel
theorem dX3_contract_9 : decode cX3_contract 9 = .ok (.ifCond .eq 28, 3) := by decide +kernel
theorem dX3_contract_12 : decode cX3_contract 12 = .ok (.iload_n 2, 1) := by decide +kernel
theorem dX3_contract_13 : decode cX3_contract 13 = .ok (.i2l, 1) := by decide +kernel
theorem dX3_contract_14 : decode cX3_contract 14 = .ok (.lconst 1, 1) := by decide +kernel
theorem dX3_contract_15 : decode cX3_contract 15 = .ok (.ldc2_w 75, 3) := by decide +kernel
theorem dX3_contract_18 : decode cX3_contract 18 = .ok (.invokestatic 67, 3) := by decide +kernel
theorem dX3_contract_21 : decode cX3_contract 21 = .ok (.ifCond .eq 16, 3) := by decide +kernel
theorem dX3_contract_24 : decode cX3_contract 24 = .ok (.iload_n 3, 1) := by decide +kernel
theorem dX3_contract_25 : decode cX3_contract 25 = .ok (.i2l, 1) := by decide +kernel
theorem dX3_contract_26 : decode cX3_contract 26 = .ok (.iload_n 2, 1) := by decide +kernel
theorem dX3_contract_27 : decode cX3_contract 27 = .ok (.i2l, 1) := by decide +kernel
theorem dX3_contract_28 : decode cX3_contract 28 = .ok (.ldc2_w 75, 3) := by decide +kernel
theorem dX3_contract_31 : decode cX3_contract 31 = .ok (.invokestatic 67, 3) := by decide +kernel
theorem dX3_contract_34 : decode cX3_contract 34 = .ok (.ifCond .ne 5, 3) := by decide +kernel
theorem dX3_contract_37 : decode cX3_contract 37 = .ok (.iconst 0, 1) := by decide +kernel
theorem dX3_contract_38 : decode cX3_contract 38 = .ok (.ireturn, 1) := by decide +kernel
theorem dX3_contract_39 : decode cX3_contract 39 = .ok (.aload_n 0, 1) := by decide +kernel
theorem dX3_contract_40 : decode cX3_contract 40 = .ok (.getfield 13, 3) := by decide +kernel
theorem dX3_contract_43 : decode cX3_contract 43 = .ok (.iload_n 1, 1) := by decide +kernel
theorem dX3_contract_44 : decode cX3_contract 44 = .ok (.if_icmp .ne 21, 3) := by decide +kernel
theorem dX3_contract_47 : decode cX3_contract 47 = .ok (.aload_n 0, 1) := by decide +kernel
theorem dX3_contract_48 : decode cX3_contract 48 = .ok (.getfield 17, 3) := by decide +kernel
theorem dX3_contract_51 : decode cX3_contract 51 = .ok (.iload_n 2, 1) := by decide +kernel
theorem dX3_contract_52 : decode cX3_contract 52 = .ok (.if_icmp .ne 13, 3) := by decide +kernel
theorem dX3_contract_55 : decode cX3_contract 55 = .ok (.aload_n 0, 1) := by decide +kernel
theorem dX3_contract_56 : decode cX3_contract 56 = .ok (.getfield 20, 3) := by decide +kernel
theorem dX3_contract_59 : decode cX3_contract 59 = .ok (.iload_n 3, 1) := by decide +kernel
theorem dX3_contract_60 : decode cX3_contract 60 = .ok (.if_icmp .ne 5, 3) := by decide +kernel
theorem dX3_contract_63 : decode cX3_contract 63 = .ok (.iconst 0, 1) := by decide +kernel
theorem dX3_contract_64 : decode cX3_contract 64 = .ok (.ireturn, 1) := by decide +kernel
theorem dX3_contract_65 : decode cX3_contract 65 = .ok (.aload_n 0, 1) := by decide +kernel
theorem dX3_contract_66 : decode cX3_contract 66 = .ok (.iload_n 1, 1) := by decide +kernel
theorem dX3_contract_67 : decode cX3_contract 67 = .ok (.putfield 13, 3) := by decide +kernel
theorem dX3_contract_70 : decode cX3_contract 70 = .ok (.aload_n 0, 1) := by decide +kernel
theorem dX3_contract_71 : decode cX3_contract 71 = .ok (.iload_n 2, 1) := by decide +kernel
theorem dX3_contract_72 : decode cX3_contract 72 = .ok (.putfield 17, 3) := by decide +kernel
theorem dX3_contract_75 : decode cX3_contract 75 = .ok (.aload_n 0, 1) := by decide +kernel
theorem dX3_contract_76 : decode cX3_contract 76 = .ok (.iload_n 3, 1) := by decide +kernel
theorem dX3_contract_77 : decode cX3_contract 77 = .ok (.putfield 20, 3) := by decide +kernel
theorem dX3_contract_80 : decode cX3_contract 80 = .ok (.iconst 1, 1) := by decide +kernel
theorem dX3_contract_81 : decode cX3_contract 81 = .ok (.ireturn, 1) := by decide +kernel
set_option maxRecDepth 20000 in
theorem ggX3_stocks_X3_isEligible : GoodIn wsX3_stocks wsX3_isEligible := goodIn_r _ [6, 7, 8, 9, 10, 11, 12, 13, 5, 14, 15, 16, 17, 18, 19, 20, 21, 22, 23, 24, 25, 26, 27, 28, 29, 30, 31, 32, 33, 34, 35, 36, 37, 38, 39, 40, 41, 42, 43, 44, 45, 46, 47, 48, 49, 50, 51, 52, 53, 54, 55, 56, 57, 58, 59, 60, 61] (by decide +kernel) (by decide +kernel)
set_option maxRecDepth 20000 in
theorem gX3_stocks_X3_isEligible : GoodIn wsX3_stocks (wsV RX3 120 RX3 yX3_isEligible wsX3_isEligible) := goodIn_app (goodIn_of _ (by decide +kernel)) ggX3_stocks_X3_isEligible
set_option maxRecDepth 20000 in
theorem ggX3_stocks_X3_of1 : GoodIn wsX3_stocks wsX3_of1 := goodIn_r _ [14, 15, 42, 43, 44, 45, 46, 47, 48, 49, 50, 51, 52, 53, 54, 55, 56, 57, 58, 59, 60, 61] (by decide +kernel) (by decide +kernel)
set_option maxRecDepth 20000 in
theorem gX3_stocks_X3_of1 : GoodIn wsX3_stocks (wsV RX3 95 RX3 yX3_of1 wsX3_of1) := goodIn_app (goodIn_of _ (by decide +kernel)) ggX3_stocks_X3_of1
theorem dX3_stocks_0 : decode cX3_stocks 0 = .ok (.iconst 0, 1) := by decide +kernel
theorem dX3_stocks_1 : decode cX3_stocks 1 = .ok (.istore_n 1, 1) := by decide +kernel
theorem dX3_stocks_2 : decode cX3_stocks 2 = .ok (.iconst 0, 1) := by decide +kernel
theorem dX3_stocks_3 : decode cX3_stocks 3 = .ok (.istore_n 2, 1) := by decide +kernel
theorem dX3_stocks_4 : decode cX3_stocks 4 = .ok (.iload_n 2, 1) := by decide +kernel
theorem dX3_stocks_5 : decode cX3_stocks 5 = .ok (.aload_n 0, 1) := by decide +kernel
theorem dX3_stocks_6 : decode cX3_stocks 6 = .ok (.getfield 64, 3) := by decide +kernel
theorem dX3_stocks_9 : decode cX3_stocks 9 = .ok (.if_icmp .ge 30, 3) := by decide +kernel
theorem dX3_stocks_12 : decode cX3_stocks 12 = .ok (.iload_n 1, 1) := by decide +kernel
theorem dX3_stocks_13 : decode cX3_stocks 13 = .ok (.aload_n 0, 1) := by decide +kernel
theorem dX3_stocks_14 : decode cX3_stocks 14 = .ok (.iload_n 2, 1) := by decide +kernel
theorem dX3_stocks_15 : decode cX3_stocks 15 = .ok (.invokevirtual 120, 3) := by decide +kernel
theorem dX3_stocks_18 : decode cX3_stocks 18 = .ok (.ifCond .eq 12, 3) := by decide +kernel
theorem dX3_stocks_21 : decode cX3_stocks 21 = .ok (.aload_n 0, 1) := by decide +kernel
theorem dX3_stocks_22 : decode cX3_stocks 22 = .ok (.iload_n 2, 1) := by decide +kernel
theorem dX3_stocks_23 : decode cX3_stocks 23 = .ok (.iconst 5, 1) := by decide +kernel
theorem dX3_stocks_24 : decode cX3_stocks 24 = .ok (.invokevirtual 95, 3) := by decide +kernel
theorem dX3_stocks_27 : decode cX3_stocks 27 = .ok (.goto 4, 3) := by decide +kernel
theorem dX3_stocks_30 : decode cX3_stocks 30 = .ok (.iconst 0, 1) := by decide +kernel
theorem dX3_stocks_31 : decode cX3_stocks 31 = .ok (.iadd, 1) := by decide +kernel
theorem dX3_stocks_32 : decode cX3_stocks 32 = .ok (.istore_n 1, 1) := by decide +kernel
theorem dX3_stocks_33 : decode cX3_stocks 33 = .ok (.iinc 2 1, 3) := by decide +kernel
theorem dX3_stocks_36 : decode cX3_stocks 36 = .ok (.goto (-32), 3) := by decide +kernel
theorem dX3_stocks_39 : decode cX3_stocks 39 = .ok (.iload_n 1, 1) := by decide +kernel
theorem dX3_stocks_40 : decode cX3_stocks 40 = .ok (.ireturn, 1) := by decide +kernel
set_option maxRecDepth 20000 in
theorem ggX3_count_X3_eligible : GoodIn wsX3_count wsX3_eligible := goodIn_r _ [15, 2, 16, 17, 18, 14, 19, 20, 21, 4, 5, 22, 23, 24, 25, 26, 27, 28, 29, 30, 31, 32, 33, 3, 34, 35, 36, 37, 38, 39, 40, 41, 42, 43, 44, 45, 46, 47, 48, 49, 50, 51, 56, 57, 58, 59, 60, 61, 62, 63, 64, 65, 66, 67, 68, 69, 70, 71, 72, 73, 74, 75] (by decide +kernel) (by decide +kernel)
set_option maxRecDepth 20000 in
theorem gX3_count_X3_eligible : GoodIn wsX3_count (wsV RX3 123 RX3 yX3_eligible wsX3_eligible) := goodIn_app (goodIn_of _ (by decide +kernel)) ggX3_count_X3_eligible
set_option maxRecDepth 20000 in
theorem ggX3_count_X3_stocks : GoodIn wsX3_count wsX3_stocks := goodIn_r _ [55, 2, 16, 17, 18, 14, 19, 20, 21, 4, 5, 22, 23, 24, 25, 26, 27, 28, 29, 30, 31, 32, 33, 3, 34, 35, 36, 37, 38, 39, 40, 41, 42, 43, 44, 45, 46, 47, 48, 49, 50, 51, 56, 57, 58, 59, 60, 61, 62, 63, 64, 65, 66, 67, 68, 69, 70, 71, 72, 73, 74, 75] (by decide +kernel) (by decide +kernel)
set_option maxRecDepth 20000 in
theorem gX3_count_X3_stocks : GoodIn wsX3_count (wsV RX3 138 RX3 yX3_stocks wsX3_stocks) := goodIn_app (goodIn_of _ (by decide +kernel)) ggX3_count_X3_stocks
theorem dX3_count_0 : decode cX3_count 0 = .ok (.aload_n 0, 1) := by decide +kernel
theorem dX3_count_1 : decode cX3_count 1 = .ok (.iconst 0, 1) := by decide +kernel
theorem dX3_count_2 : decode cX3_count 2 = .ok (.putfield 61, 3) := by decide +kernel
theorem dX3_count_5 : decode cX3_count 5 = .ok (.iload_n 1, 1) := by decide +kernel
theorem dX3_count_6 : decode cX3_count 6 = .ok (.tableswitch 113 0 10 #[58, 63, 68, 73, 78, 83, 88, 93, 98, 103, 108], 58) := by decide +kernel
theorem dX3_count_64 : decode cX3_count 64 = .ok (.aload_n 0, 1) := by decide +kernel
theorem dX3_count_65 : decode cX3_count 65 = .ok (.getfield 64, 3) := by decide +kernel
theorem dX3_count_68 : decode cX3_count 68 = .ok (.ireturn, 1) := by decide +kernel
theorem dX3_count_69 : decode cX3_count 69 = .ok (.aload_n 0, 1) := by decide +kernel
theorem dX3_count_70 : decode cX3_count 70 = .ok (.invokevirtual 123, 3) := by decide +kernel
theorem dX3_count_73 : decode cX3_count 73 = .ok (.ireturn, 1) := by decide +kernel
theorem dX3_count_74 : decode cX3_count 74 = .ok (.aload_n 0, 1) := by decide +kernel
theorem dX3_count_75 : decode cX3_count 75 = .ok (.getfield 13, 3) := by decide +kernel
theorem dX3_count_78 : decode cX3_count 78 = .ok (.ireturn, 1) := by decide +kernel
theorem dX3_count_79 : decode cX3_count 79 = .ok (.aload_n 0, 1) := by decide +kernel
theorem dX3_count_80 : decode cX3_count 80 = .ok (.getfield 17, 3) := by decide +kernel
theorem dX3_count_83 : decode cX3_count 83 = .ok (.ireturn, 1) := by decide +kernel
theorem dX3_count_84 : decode cX3_count 84 = .ok (.aload_n 0, 1) := by decide +kernel
theorem dX3_count_85 : decode cX3_count 85 = .ok (.getfield 20, 3) := by decide +kernel
theorem dX3_count_88 : decode cX3_count 88 = .ok (.ireturn, 1) := by decide +kernel
theorem dX3_count_89 : decode cX3_count 89 = .ok (.aload_n 0, 1) := by decide +kernel
theorem dX3_count_90 : decode cX3_count 90 = .ok (.invokevirtual 138, 3) := by decide +kernel
theorem dX3_count_93 : decode cX3_count 93 = .ok (.ireturn, 1) := by decide +kernel
theorem dX3_count_94 : decode cX3_count 94 = .ok (.aload_n 0, 1) := by decide +kernel
theorem dX3_count_95 : decode cX3_count 95 = .ok (.getfield 141, 3) := by decide +kernel
theorem dX3_count_98 : decode cX3_count 98 = .ok (.ireturn, 1) := by decide +kernel
theorem dX3_count_99 : decode cX3_count 99 = .ok (.aload_n 0, 1) := by decide +kernel
theorem dX3_count_100 : decode cX3_count 100 = .ok (.getfield 23, 3) := by decide +kernel
theorem dX3_count_103 : decode cX3_count 103 = .ok (.ireturn, 1) := by decide +kernel
theorem dX3_count_104 : decode cX3_count 104 = .ok (.aload_n 0, 1) := by decide +kernel
theorem dX3_count_105 : decode cX3_count 105 = .ok (.getfield 26, 3) := by decide +kernel
theorem dX3_count_108 : decode cX3_count 108 = .ok (.ireturn, 1) := by decide +kernel
theorem dX3_count_109 : decode cX3_count 109 = .ok (.aload_n 0, 1) := by decide +kernel
theorem dX3_count_110 : decode cX3_count 110 = .ok (.getfield 144, 3) := by decide +kernel
theorem dX3_count_113 : decode cX3_count 113 = .ok (.ireturn, 1) := by decide +kernel
theorem dX3_count_114 : decode cX3_count 114 = .ok (.aload_n 0, 1) := by decide +kernel
theorem dX3_count_115 : decode cX3_count 115 = .ok (.getfield 30, 3) := by decide +kernel
theorem dX3_count_118 : decode cX3_count 118 = .ok (.ireturn, 1) := by decide +kernel
theorem dX3_count_119 : decode cX3_count 119 = .ok (.iconst (-1), 1) := by decide +kernel
theorem dX3_count_120 : decode cX3_count 120 = .ok (.ireturn, 1) := by decide +kernel
set_option maxRecDepth 20000 in
theorem ggX3_isDearer_X3_price1 : GoodIn wsX3_isDearer wsX3_price1 := goodIn_r _ [5, 6, 7, 8, 4, 9, 10, 11, 12, 13, 14, 15, 16, 17, 18, 19, 20, 21, 22, 23, 24, 25, 26, 27, 28, 34, 35, 36, 37, 38, 39, 40, 41, 42, 43, 44, 45, 46, 47, 48, 49, 50, 51, 52, 53] (by decide +kernel) (by decide +kernel)
set_option maxRecDepth 20000 in
theorem gX3_isDearer_X3_price1 : GoodIn wsX3_isDearer (wsV RX3 135 RX3 yX3_price1 wsX3_price1) := goodIn_app (goodIn_of _ (by decide +kernel)) ggX3_isDearer_X3_price1
set_option maxRecDepth 20000 in
theorem ggX3_isDearer_X3_factor : GoodIn wsX3_isDearer wsX3_factor := goodIn_r _ [32, 33, 15, 11, 12, 13, 4, 14, 6, 7, 8, 9, 10, 16, 17, 18, 19, 20, 21, 22, 23, 24, 25, 26, 27, 28, 34, 35, 36, 37, 38, 39, 40, 41, 42, 43, 44, 45, 46, 47, 48, 49, 50, 51, 52, 53] (by decide +kernel) (by decide +kernel)
set_option maxRecDepth 20000 in
theorem gX3_isDearer_X3_factor : GoodIn wsX3_isDearer (wsV RX3 116 RX3 yX3_factor wsX3_factor) := goodIn_app (goodIn_of _ (by decide +kernel)) ggX3_isDearer_X3_factor
theorem dX3_isDearer_0 : decode cX3_isDearer 0 = .ok (.aload_n 0, 1) := by decide +kernel
theorem dX3_isDearer_1 : decode cX3_isDearer 1 = .ok (.iload_n 1, 1) := by decide +kernel
theorem dX3_isDearer_2 : decode cX3_isDearer 2 = .ok (.iload_n 3, 1) := by decide +kernel
theorem dX3_isDearer_3 : decode cX3_isDearer 3 = .ok (.invokevirtual 135, 3) := by decide +kernel
theorem dX3_isDearer_6 : decode cX3_isDearer 6 = .ok (.aload_n 0, 1) := by decide +kernel
theorem dX3_isDearer_7 : decode cX3_isDearer 7 = .ok (.iload_n 2, 1) := by decide +kernel
theorem dX3_isDearer_8 : decode cX3_isDearer 8 = .ok (.invokevirtual 116, 3) := by decide +kernel
theorem dX3_isDearer_11 : decode cX3_isDearer 11 = .ok (.lmul, 1) := by decide +kernel
theorem dX3_isDearer_12 : decode cX3_isDearer 12 = .ok (.aload_n 0, 1) := by decide +kernel
theorem dX3_isDearer_13 : decode cX3_isDearer 13 = .ok (.iload_n 2, 1) := by decide +kernel
theorem dX3_isDearer_14 : decode cX3_isDearer 14 = .ok (.iload_n 3, 1) := by decide +kernel
theorem dX3_isDearer_15 : decode cX3_isDearer 15 = .ok (.invokevirtual 135, 3) := by decide +kernel
theorem dX3_isDearer_18 : decode cX3_isDearer 18 = .ok (.aload_n 0, 1) := by decide +kernel
theorem dX3_isDearer_19 : decode cX3_isDearer 19 = .ok (.iload_n 1, 1) := by decide +kernel
theorem dX3_isDearer_20 : decode cX3_isDearer 20 = .ok (.invokevirtual 116, 3) := by decide +kernel
theorem dX3_isDearer_23 : decode cX3_isDearer 23 = .ok (.lmul, 1) := by decide +kernel
theorem dX3_isDearer_24 : decode cX3_isDearer 24 = .ok (.lcmp, 1) := by decide +kernel
theorem dX3_isDearer_25 : decode cX3_isDearer 25 = .ok (.ifCond .le 7, 3) := by decide +kernel
theorem dX3_isDearer_28 : decode cX3_isDearer 28 = .ok (.iconst 1, 1) := by decide +kernel
theorem dX3_isDearer_29 : decode cX3_isDearer 29 = .ok (.goto 4, 3) := by decide +kernel
theorem dX3_isDearer_32 : decode cX3_isDearer 32 = .ok (.iconst 0, 1) := by decide +kernel
theorem dX3_isDearer_33 : decode cX3_isDearer 33 = .ok (.ireturn, 1) := by decide +kernel
set_option maxRecDepth 20000 in
theorem ggX3_cheapest1_X3_isEligible : GoodIn wsX3_cheapest1 wsX3_isEligible := goodIn_r _ [6, 7, 8, 9, 10, 11, 12, 13, 5, 14, 15, 16, 17, 18, 19, 20, 21, 22, 23, 24, 25, 26, 27, 28, 29, 30, 31, 32, 33, 34, 35, 36, 37, 38, 39, 40, 41, 50, 51, 52, 53, 54, 55, 56, 57, 58, 59, 60, 61, 62, 63, 64, 65, 66, 67, 68, 69] (by decide +kernel) (by decide +kernel)
set_option maxRecDepth 20000 in
theorem gX3_cheapest1_X3_isEligible : GoodIn wsX3_cheapest1 (wsV RX3 120 RX3 yX3_isEligible wsX3_isEligible) := goodIn_app (goodIn_of _ (by decide +kernel)) ggX3_cheapest1_X3_isEligible
set_option maxRecDepth 20000 in
theorem ggX3_cheapest1_X3_isDearer : GoodIn wsX3_cheapest1 wsX3_isDearer := goodIn_r _ [45, 46, 47, 48, 5, 49, 11, 12, 13, 14, 15, 25, 26, 27, 28, 24, 29, 30, 31, 32, 33, 34, 35, 36, 37, 38, 39, 40, 41, 19, 20, 21, 22, 23, 50, 51, 52, 53, 54, 55, 56, 57, 58, 59, 60, 61, 62, 63, 64, 65, 66, 67, 68, 69] (by decide +kernel) (by decide +kernel)
set_option maxRecDepth 20000 in
theorem gX3_cheapest1_X3_isDearer : GoodIn wsX3_cheapest1 (wsV RX3 147 RX3 yX3_isDearer wsX3_isDearer) := goodIn_app (goodIn_of _ (by decide +kernel)) ggX3_cheapest1_X3_isDearer
theorem dX3_cheapest1_0 : decode cX3_cheapest1 0 = .ok (.iconst (-1), 1) := by decide +kernel
theorem dX3_cheapest1_1 : decode cX3_cheapest1 1 = .ok (.istore_n 2, 1) := by decide +kernel
theorem dX3_cheapest1_2 : decode cX3_cheapest1 2 = .ok (.iconst 0, 1) := by decide +kernel
theorem dX3_cheapest1_3 : decode cX3_cheapest1 3 = .ok (.istore_n 3, 1) := by decide +kernel
theorem dX3_cheapest1_4 : decode cX3_cheapest1 4 = .ok (.iload_n 3, 1) := by decide +kernel
theorem dX3_cheapest1_5 : decode cX3_cheapest1 5 = .ok (.aload_n 0, 1) := by decide +kernel
theorem dX3_cheapest1_6 : decode cX3_cheapest1 6 = .ok (.getfield 64, 3) := by decide +kernel
theorem dX3_cheapest1_9 : decode cX3_cheapest1 9 = .ok (.if_icmp .ge 34, 3) := by decide +kernel
theorem dX3_cheapest1_12 : decode cX3_cheapest1 12 = .ok (.aload_n 0, 1) := by decide +kernel
theorem dX3_cheapest1_13 : decode cX3_cheapest1 13 = .ok (.iload_n 3, 1) := by decide +kernel
theorem dX3_cheapest1_14 : decode cX3_cheapest1 14 = .ok (.invokevirtual 120, 3) := by decide +kernel
theorem dX3_cheapest1_17 : decode cX3_cheapest1 17 = .ok (.ifCond .eq 20, 3) := by decide +kernel
theorem dX3_cheapest1_20 : decode cX3_cheapest1 20 = .ok (.iload_n 2, 1) := by decide +kernel
theorem dX3_cheapest1_21 : decode cX3_cheapest1 21 = .ok (.iconst (-1), 1) := by decide +kernel
theorem dX3_cheapest1_22 : decode cX3_cheapest1 22 = .ok (.if_icmp .eq 13, 3) := by decide +kernel
theorem dX3_cheapest1_25 : decode cX3_cheapest1 25 = .ok (.aload_n 0, 1) := by decide +kernel
theorem dX3_cheapest1_26 : decode cX3_cheapest1 26 = .ok (.iload_n 2, 1) := by decide +kernel
theorem dX3_cheapest1_27 : decode cX3_cheapest1 27 = .ok (.iload_n 3, 1) := by decide +kernel
theorem dX3_cheapest1_28 : decode cX3_cheapest1 28 = .ok (.iload_n 1, 1) := by decide +kernel
theorem dX3_cheapest1_29 : decode cX3_cheapest1 29 = .ok (.invokevirtual 147, 3) := by decide +kernel
theorem dX3_cheapest1_32 : decode cX3_cheapest1 32 = .ok (.ifCond .eq 5, 3) := by decide +kernel
theorem dX3_cheapest1_35 : decode cX3_cheapest1 35 = .ok (.iload_n 3, 1) := by decide +kernel
theorem dX3_cheapest1_36 : decode cX3_cheapest1 36 = .ok (.istore_n 2, 1) := by decide +kernel
theorem dX3_cheapest1_37 : decode cX3_cheapest1 37 = .ok (.iinc 3 1, 3) := by decide +kernel
theorem dX3_cheapest1_40 : decode cX3_cheapest1 40 = .ok (.goto (-36), 3) := by decide +kernel
theorem dX3_cheapest1_43 : decode cX3_cheapest1 43 = .ok (.iload_n 2, 1) := by decide +kernel
theorem dX3_cheapest1_44 : decode cX3_cheapest1 44 = .ok (.ireturn, 1) := by decide +kernel
set_option maxRecDepth 20000 in
theorem ggX3_cheapest_X3_isRate : GoodIn wsX3_cheapest wsX3_isRate := goodIn_r _ [5, 6, 7, 8, 4, 9] (by decide +kernel) (by decide +kernel)
set_option maxRecDepth 20000 in
theorem gX3_cheapest_X3_isRate : GoodIn wsX3_cheapest (va_wsS RX3 132 yX3_isRate wsX3_isRate) := goodIn_app (goodIn_of _ (by decide +kernel)) ggX3_cheapest_X3_isRate
set_option maxRecDepth 20000 in
theorem ggX3_cheapest_X3_cheapest1 : GoodIn wsX3_cheapest wsX3_cheapest1 := goodIn_r _ [13, 14, 15, 16, 17, 4, 18, 19, 20, 21, 22, 23, 24, 25, 26, 27, 7, 8, 9, 28, 29, 30, 31, 32, 33, 34, 35, 36, 37, 38, 39, 40, 41, 42, 43, 44, 45, 46, 47, 48, 49, 50, 51, 52, 53, 54, 55, 56, 57, 58, 59, 60, 61, 62, 63, 64, 65, 66, 67, 68, 69, 70, 71, 72, 73, 74, 75, 76, 77, 78] (by decide +kernel) (by decide +kernel)
set_option maxRecDepth 20000 in
theorem gX3_cheapest_X3_cheapest1 : GoodIn wsX3_cheapest (wsV RX3 151 RX3 yX3_cheapest1 wsX3_cheapest1) := goodIn_app (goodIn_of _ (by decide +kernel)) ggX3_cheapest_X3_cheapest1
theorem dX3_cheapest_0 : decode cX3_cheapest 0 = .ok (.aload_n 0, 1) := by decide +kernel
theorem dX3_cheapest_1 : decode cX3_cheapest 1 = .ok (.iconst 0, 1) := by decide +kernel
theorem dX3_cheapest_2 : decode cX3_cheapest 2 = .ok (.putfield 61, 3) := by decide +kernel
theorem dX3_cheapest_5 : decode cX3_cheapest 5 = .ok (.iload_n 1, 1) := by decide +kernel
theorem dX3_cheapest_6 : decode cX3_cheapest 6 = .ok (.invokestatic 132, 3) := by decide +kernel
theorem dX3_cheapest_9 : decode cX3_cheapest 9 = .ok (.ifCond .eq 11, 3) := by decide +kernel
theorem dX3_cheapest_12 : decode cX3_cheapest 12 = .ok (.aload_n 0, 1) := by decide +kernel
theorem dX3_cheapest_13 : decode cX3_cheapest 13 = .ok (.iload_n 1, 1) := by decide +kernel
theorem dX3_cheapest_14 : decode cX3_cheapest 14 = .ok (.invokevirtual 151, 3) := by decide +kernel
theorem dX3_cheapest_17 : decode cX3_cheapest 17 = .ok (.goto 4, 3) := by decide +kernel
theorem dX3_cheapest_20 : decode cX3_cheapest 20 = .ok (.iconst (-1), 1) := by decide +kernel
theorem dX3_cheapest_21 : decode cX3_cheapest 21 = .ok (.ireturn, 1) := by decide +kernel
set_option maxRecDepth 20000 in
theorem ggX3_ranked_X3_isRate : GoodIn wsX3_ranked wsX3_isRate := goodIn_r _ [6, 7, 8, 9, 5, 10] (by decide +kernel) (by decide +kernel)
set_option maxRecDepth 20000 in
theorem gX3_ranked_X3_isRate : GoodIn wsX3_ranked (va_wsS RX3 132 yX3_isRate wsX3_isRate) := goodIn_app (goodIn_of _ (by decide +kernel)) ggX3_ranked_X3_isRate
set_option maxRecDepth 20000 in
theorem ggX3_ranked_X3_isEligible : GoodIn wsX3_ranked wsX3_isEligible := goodIn_r _ [14, 15, 16, 17, 18, 19, 20, 21, 5, 22, 23, 8, 9, 10, 24, 25, 26, 27, 28, 29, 30, 31, 32, 33, 34, 35, 36, 37, 38, 39, 40, 41, 42, 43, 44, 45, 46, 55, 56, 57, 58, 59, 60, 61, 62, 63, 64, 65, 66, 67, 68, 69, 70, 71, 72, 73, 74] (by decide +kernel) (by decide +kernel)
set_option maxRecDepth 20000 in
theorem gX3_ranked_X3_isEligible : GoodIn wsX3_ranked (wsV RX3 120 RX3 yX3_isEligible wsX3_isEligible) := goodIn_app (goodIn_of _ (by decide +kernel)) ggX3_ranked_X3_isEligible
set_option maxRecDepth 20000 in
theorem ggX3_ranked_X3_isDearer : GoodIn wsX3_ranked wsX3_isDearer := goodIn_r _ [50, 51, 52, 53, 5, 54, 19, 20, 21, 22, 23, 30, 31, 32, 33, 29, 34, 35, 36, 37, 38, 39, 40, 41, 42, 43, 44, 45, 46, 24, 25, 26, 27, 28, 55, 56, 57, 58, 59, 60, 61, 62, 63, 64, 65, 66, 67, 68, 69, 70, 71, 72, 73, 74] (by decide +kernel) (by decide +kernel)
set_option maxRecDepth 20000 in
theorem gX3_ranked_X3_isDearer : GoodIn wsX3_ranked (wsV RX3 147 RX3 yX3_isDearer wsX3_isDearer) := goodIn_app (goodIn_of _ (by decide +kernel)) ggX3_ranked_X3_isDearer
theorem dX3_ranked_0 : decode cX3_ranked 0 = .ok (.aload_n 0, 1) := by decide +kernel
theorem dX3_ranked_1 : decode cX3_ranked 1 = .ok (.iconst 0, 1) := by decide +kernel
theorem dX3_ranked_2 : decode cX3_ranked 2 = .ok (.putfield 61, 3) := by decide +kernel
theorem dX3_ranked_5 : decode cX3_ranked 5 = .ok (.iload_n 1, 1) := by decide +kernel
theorem dX3_ranked_6 : decode cX3_ranked 6 = .ok (.invokestatic 132, 3) := by decide +kernel
theorem dX3_ranked_9 : decode cX3_ranked 9 = .ok (.ifCond .ne 5, 3) := by decide +kernel
theorem dX3_ranked_12 : decode cX3_ranked 12 = .ok (.iconst (-1), 1) := by decide +kernel
theorem dX3_ranked_13 : decode cX3_ranked 13 = .ok (.ireturn, 1) := by decide +kernel
theorem dX3_ranked_14 : decode cX3_ranked 14 = .ok (.iconst 0, 1) := by decide +kernel
theorem dX3_ranked_15 : decode cX3_ranked 15 = .ok (.istore_n 3, 1) := by decide +kernel
theorem dX3_ranked_16 : decode cX3_ranked 16 = .ok (.iload_n 3, 1) := by decide +kernel
theorem dX3_ranked_17 : decode cX3_ranked 17 = .ok (.aload_n 0, 1) := by decide +kernel
theorem dX3_ranked_18 : decode cX3_ranked 18 = .ok (.getfield 64, 3) := by decide +kernel
theorem dX3_ranked_21 : decode cX3_ranked 21 = .ok (.if_icmp .ge 102, 3) := by decide +kernel
theorem dX3_ranked_24 : decode cX3_ranked 24 = .ok (.aload_n 0, 1) := by decide +kernel
theorem dX3_ranked_25 : decode cX3_ranked 25 = .ok (.iload_n 3, 1) := by decide +kernel
theorem dX3_ranked_26 : decode cX3_ranked 26 = .ok (.invokevirtual 120, 3) := by decide +kernel
theorem dX3_ranked_29 : decode cX3_ranked 29 = .ok (.ifCond .ne 6, 3) := by decide +kernel
theorem dX3_ranked_32 : decode cX3_ranked 32 = .ok (.goto 85, 3) := by decide +kernel
theorem dX3_ranked_35 : decode cX3_ranked 35 = .ok (.iconst 0, 1) := by decide +kernel
theorem dX3_ranked_36 : decode cX3_ranked 36 = .ok (.istore 4, 2) := by decide +kernel
theorem dX3_ranked_38 : decode cX3_ranked 38 = .ok (.iconst 0, 1) := by decide +kernel
theorem dX3_ranked_39 : decode cX3_ranked 39 = .ok (.istore 5, 2) := by decide +kernel
theorem dX3_ranked_41 : decode cX3_ranked 41 = .ok (.iload 5, 2) := by decide +kernel
theorem dX3_ranked_43 : decode cX3_ranked 43 = .ok (.aload_n 0, 1) := by decide +kernel
theorem dX3_ranked_44 : decode cX3_ranked 44 = .ok (.getfield 64, 3) := by decide +kernel
theorem dX3_ranked_47 : decode cX3_ranked 47 = .ok (.if_icmp .ge 62, 3) := by decide +kernel
theorem dX3_ranked_50 : decode cX3_ranked 50 = .ok (.iload 4, 2) := by decide +kernel
theorem dX3_ranked_52 : decode cX3_ranked 52 = .ok (.aload_n 0, 1) := by decide +kernel
theorem dX3_ranked_53 : decode cX3_ranked 53 = .ok (.iload 5, 2) := by decide +kernel
theorem dX3_ranked_55 : decode cX3_ranked 55 = .ok (.invokevirtual 120, 3) := by decide +kernel
theorem dX3_ranked_58 : decode cX3_ranked 58 = .ok (.ifCond .eq 41, 3) := by decide +kernel
theorem dX3_ranked_61 : decode cX3_ranked 61 = .ok (.iload 5, 2) := by decide +kernel
theorem dX3_ranked_63 : decode cX3_ranked 63 = .ok (.iload_n 3, 1) := by decide +kernel
theorem dX3_ranked_64 : decode cX3_ranked 64 = .ok (.if_icmp .eq 35, 3) := by decide +kernel
theorem dX3_ranked_67 : decode cX3_ranked 67 = .ok (.aload_n 0, 1) := by decide +kernel
theorem dX3_ranked_68 : decode cX3_ranked 68 = .ok (.iload_n 3, 1) := by decide +kernel
theorem dX3_ranked_69 : decode cX3_ranked 69 = .ok (.iload 5, 2) := by decide +kernel
theorem dX3_ranked_71 : decode cX3_ranked 71 = .ok (.iload_n 1, 1) := by decide +kernel
theorem dX3_ranked_72 : decode cX3_ranked 72 = .ok (.invokevirtual 147, 3) := by decide +kernel
theorem dX3_ranked_75 : decode cX3_ranked 75 = .ok (.ifCond .ne 20, 3) := by decide +kernel
theorem dX3_ranked_78 : decode cX3_ranked 78 = .ok (.iload 5, 2) := by decide +kernel
theorem dX3_ranked_80 : decode cX3_ranked 80 = .ok (.iload_n 3, 1) := by decide +kernel
theorem dX3_ranked_81 : decode cX3_ranked 81 = .ok (.if_icmp .ge 18, 3) := by decide +kernel
theorem dX3_ranked_84 : decode cX3_ranked 84 = .ok (.aload_n 0, 1) := by decide +kernel
theorem dX3_ranked_85 : decode cX3_ranked 85 = .ok (.iload 5, 2) := by decide +kernel
theorem dX3_ranked_87 : decode cX3_ranked 87 = .ok (.iload_n 3, 1) := by decide +kernel
theorem dX3_ranked_88 : decode cX3_ranked 88 = .ok (.iload_n 1, 1) := by decide +kernel
theorem dX3_ranked_89 : decode cX3_ranked 89 = .ok (.invokevirtual 147, 3) := by decide +kernel
theorem dX3_ranked_92 : decode cX3_ranked 92 = .ok (.ifCond .ne 7, 3) := by decide +kernel
theorem dX3_ranked_95 : decode cX3_ranked 95 = .ok (.iconst 1, 1) := by decide +kernel
theorem dX3_ranked_96 : decode cX3_ranked 96 = .ok (.goto 4, 3) := by decide +kernel
theorem dX3_ranked_99 : decode cX3_ranked 99 = .ok (.iconst 0, 1) := by decide +kernel
theorem dX3_ranked_100 : decode cX3_ranked 100 = .ok (.iadd, 1) := by decide +kernel
theorem dX3_ranked_101 : decode cX3_ranked 101 = .ok (.istore 4, 2) := by decide +kernel
theorem dX3_ranked_103 : decode cX3_ranked 103 = .ok (.iinc 5 1, 3) := by decide +kernel
theorem dX3_ranked_106 : decode cX3_ranked 106 = .ok (.goto (-65), 3) := by decide +kernel
theorem dX3_ranked_109 : decode cX3_ranked 109 = .ok (.iload 4, 2) := by decide +kernel
theorem dX3_ranked_111 : decode cX3_ranked 111 = .ok (.iload_n 2, 1) := by decide +kernel
theorem dX3_ranked_112 : decode cX3_ranked 112 = .ok (.if_icmp .ne 5, 3) := by decide +kernel
theorem dX3_ranked_115 : decode cX3_ranked 115 = .ok (.iload_n 3, 1) := by decide +kernel
theorem dX3_ranked_116 : decode cX3_ranked 116 = .ok (.ireturn, 1) := by decide +kernel
theorem dX3_ranked_117 : decode cX3_ranked 117 = .ok (.iinc 3 1, 3) := by decide +kernel
theorem dX3_ranked_120 : decode cX3_ranked 120 = .ok (.goto (-104), 3) := by decide +kernel
theorem dX3_ranked_123 : decode cX3_ranked 123 = .ok (.iconst (-1), 1) := by decide +kernel
theorem dX3_ranked_124 : decode cX3_ranked 124 = .ok (.ireturn, 1) := by decide +kernel
set_option maxRecDepth 20000 in
theorem ggX3_mark1_X3_cheapest1 : GoodIn wsX3_mark1 wsX3_cheapest1 := goodIn_r _ [6, 7, 8, 9, 10, 5, 11, 12, 13, 14, 15, 16, 17, 18, 19, 20, 21, 22, 23, 24, 25, 26, 27, 28, 1, 29, 30, 31, 32, 33, 34, 35, 36, 37, 38, 39, 40, 41, 42, 43, 44, 45, 46, 47, 48, 49, 50, 51, 52, 53, 54, 55, 56, 57, 58, 59, 60, 61, 62, 63, 64, 65, 66, 67, 68, 69, 70, 71, 72, 73] (by decide +kernel) (by decide +kernel)
set_option maxRecDepth 20000 in
theorem gX3_mark1_X3_cheapest1 : GoodIn wsX3_mark1 (wsV RX3 151 RX3 yX3_cheapest1 wsX3_cheapest1) := goodIn_app (goodIn_of _ (by decide +kernel)) ggX3_mark1_X3_cheapest1
set_option maxRecDepth 20000 in
theorem ggX3_mark1_X3_price1 : GoodIn wsX3_mark1 wsX3_price1 := goodIn_r _ [53, 16, 17, 18, 5, 19, 20, 29, 30, 31, 32, 1, 33, 34, 35, 36, 37, 38, 39, 40, 41, 42, 43, 44, 45, 54, 55, 56, 57, 58, 59, 60, 61, 62, 63, 64, 65, 66, 67, 68, 69, 70, 71, 72, 73] (by decide +kernel) (by decide +kernel)
set_option maxRecDepth 20000 in
theorem gX3_mark1_X3_price1 : GoodIn wsX3_mark1 (wsV RX3 135 RX3 yX3_price1 wsX3_price1) := goodIn_app (goodIn_of _ (by decide +kernel)) ggX3_mark1_X3_price1
set_option maxRecDepth 20000 in
theorem ggX3_mark1_X3_factor : GoodIn wsX3_mark1 wsX3_factor := goodIn_r _ [27, 28, 1, 29, 30, 31, 5, 32, 16, 17, 18, 19, 20, 33, 34, 35, 36, 37, 38, 39, 40, 41, 42, 43, 44, 45, 54, 55, 56, 57, 58, 59, 60, 61, 62, 63, 64, 65, 66, 67, 68, 69, 70, 71, 72, 73] (by decide +kernel) (by decide +kernel)
set_option maxRecDepth 20000 in
theorem gX3_mark1_X3_factor : GoodIn wsX3_mark1 (wsV RX3 116 RX3 yX3_factor wsX3_factor) := goodIn_app (goodIn_of _ (by decide +kernel)) ggX3_mark1_X3_factor
theorem dX3_mark1_0 : decode cX3_mark1 0 = .ok (.aload_n 0, 1) := by decide +kernel
theorem dX3_mark1_1 : decode cX3_mark1 1 = .ok (.iload_n 1, 1) := by decide +kernel
theorem dX3_mark1_2 : decode cX3_mark1 2 = .ok (.invokevirtual 151, 3) := by decide +kernel
theorem dX3_mark1_5 : decode cX3_mark1 5 = .ok (.istore_n 2, 1) := by decide +kernel
theorem dX3_mark1_6 : decode cX3_mark1 6 = .ok (.aload_n 0, 1) := by decide +kernel
theorem dX3_mark1_7 : decode cX3_mark1 7 = .ok (.iload_n 2, 1) := by decide +kernel
theorem dX3_mark1_8 : decode cX3_mark1 8 = .ok (.iload_n 1, 1) := by decide +kernel
theorem dX3_mark1_9 : decode cX3_mark1 9 = .ok (.invokevirtual 135, 3) := by decide +kernel
theorem dX3_mark1_12 : decode cX3_mark1 12 = .ok (.ldc2_w 105, 3) := by decide +kernel
theorem dX3_mark1_15 : decode cX3_mark1 15 = .ok (.lmul, 1) := by decide +kernel
theorem dX3_mark1_16 : decode cX3_mark1 16 = .ok (.aload_n 0, 1) := by decide +kernel
theorem dX3_mark1_17 : decode cX3_mark1 17 = .ok (.iload_n 2, 1) := by decide +kernel
theorem dX3_mark1_18 : decode cX3_mark1 18 = .ok (.invokevirtual 116, 3) := by decide +kernel
theorem dX3_mark1_21 : decode cX3_mark1 21 = .ok (.ldiv, 1) := by decide +kernel
theorem dX3_mark1_22 : decode cX3_mark1 22 = .ok (.lreturn, 1) := by decide +kernel
set_option maxRecDepth 20000 in
theorem ggX3_mark_X3_isRate : GoodIn wsX3_mark wsX3_isRate := goodIn_r _ [6, 7, 8, 9, 5, 10] (by decide +kernel) (by decide +kernel)
set_option maxRecDepth 20000 in
theorem gX3_mark_X3_isRate : GoodIn wsX3_mark (va_wsS RX3 132 yX3_isRate wsX3_isRate) := goodIn_app (goodIn_of _ (by decide +kernel)) ggX3_mark_X3_isRate
set_option maxRecDepth 20000 in
theorem ggX3_mark_X3_isAny : GoodIn wsX3_mark wsX3_isAny := goodIn_r _ [14, 15, 16, 17, 5, 18, 19, 20, 21, 22, 23, 24, 25, 26, 27, 28, 29, 30, 31, 32, 8, 9, 10, 33, 34, 35, 36, 37, 38, 39, 40, 41, 42, 43, 44, 45, 46, 47, 48, 49, 50, 51, 52, 53, 54, 55, 72, 73, 74, 75, 76, 77, 78, 79, 80, 81, 82, 83, 84, 85, 86, 87, 88, 89, 90, 91] (by decide +kernel) (by decide +kernel)
set_option maxRecDepth 20000 in
theorem gX3_mark_X3_isAny : GoodIn wsX3_mark (wsV RX3 155 RX3 yX3_isAny wsX3_isAny) := goodIn_app (goodIn_of _ (by decide +kernel)) ggX3_mark_X3_isAny
set_option maxRecDepth 20000 in
theorem ggX3_mark_X3_mark1 : GoodIn wsX3_mark wsX3_mark1 := goodIn_r _ [59, 38, 60, 61, 62, 5, 63, 19, 20, 21, 22, 23, 24, 25, 26, 27, 28, 29, 30, 31, 32, 8, 9, 10, 33, 34, 35, 36, 37, 39, 40, 41, 42, 43, 44, 45, 46, 47, 48, 49, 50, 51, 52, 53, 54, 55, 64, 65, 66, 67, 68, 69, 70, 71, 72, 73, 74, 75, 76, 77, 78, 79, 80, 81, 82, 83, 84, 85, 86, 87, 88, 89, 90, 91] (by decide +kernel) (by decide +kernel)
set_option maxRecDepth 20000 in
theorem gX3_mark_X3_mark1 : GoodIn wsX3_mark (wsV RX3 159 RX3 yX3_mark1 wsX3_mark1) := goodIn_app (goodIn_of _ (by decide +kernel)) ggX3_mark_X3_mark1
theorem dX3_mark_0 : decode cX3_mark 0 = .ok (.aload_n 0, 1) := by decide +kernel
theorem dX3_mark_1 : decode cX3_mark 1 = .ok (.iconst 0, 1) := by decide +kernel
theorem dX3_mark_2 : decode cX3_mark 2 = .ok (.putfield 61, 3) := by decide +kernel
theorem dX3_mark_5 : decode cX3_mark 5 = .ok (.iload_n 1, 1) := by decide +kernel
theorem dX3_mark_6 : decode cX3_mark 6 = .ok (.invokestatic 132, 3) := by decide +kernel
theorem dX3_mark_9 : decode cX3_mark 9 = .ok (.ifCond .eq 18, 3) := by decide +kernel
theorem dX3_mark_12 : decode cX3_mark 12 = .ok (.aload_n 0, 1) := by decide +kernel
theorem dX3_mark_13 : decode cX3_mark 13 = .ok (.invokevirtual 155, 3) := by decide +kernel
theorem dX3_mark_16 : decode cX3_mark 16 = .ok (.ifCond .eq 11, 3) := by decide +kernel
theorem dX3_mark_19 : decode cX3_mark 19 = .ok (.aload_n 0, 1) := by decide +kernel
theorem dX3_mark_20 : decode cX3_mark 20 = .ok (.iload_n 1, 1) := by decide +kernel
theorem dX3_mark_21 : decode cX3_mark 21 = .ok (.invokevirtual 159, 3) := by decide +kernel
theorem dX3_mark_24 : decode cX3_mark 24 = .ok (.goto 6, 3) := by decide +kernel
theorem dX3_mark_27 : decode cX3_mark 27 = .ok (.ldc2_w 162, 3) := by decide +kernel
theorem dX3_mark_30 : decode cX3_mark 30 = .ok (.lreturn, 1) := by decide +kernel
set_option maxRecDepth 20000 in
theorem ggX3_invoice_X3_factor : GoodIn wsX3_invoice wsX3_factor := goodIn_r _ [6, 7, 1, 8, 9, 10, 5, 11, 12, 13, 14, 15, 16, 17, 18, 19, 20, 21, 22, 23, 24, 25, 26, 27, 28, 29, 30, 31, 32, 33, 34, 35, 36, 37, 38, 39, 40, 41, 42, 43, 44, 45, 46, 47, 48, 49] (by decide +kernel) (by decide +kernel)
set_option maxRecDepth 20000 in
theorem gX3_invoice_X3_factor : GoodIn wsX3_invoice (wsV RX3 116 RX3 yX3_factor wsX3_factor) := goodIn_app (goodIn_of _ (by decide +kernel)) ggX3_invoice_X3_factor
theorem dX3_invoice_0 : decode cX3_invoice 0 = .ok (.lload_n 2, 1) := by decide +kernel
theorem dX3_invoice_1 : decode cX3_invoice 1 = .ok (.aload_n 0, 1) := by decide +kernel
theorem dX3_invoice_2 : decode cX3_invoice 2 = .ok (.iload_n 1, 1) := by decide +kernel
theorem dX3_invoice_3 : decode cX3_invoice 3 = .ok (.invokevirtual 116, 3) := by decide +kernel
theorem dX3_invoice_6 : decode cX3_invoice 6 = .ok (.lmul, 1) := by decide +kernel
theorem dX3_invoice_7 : decode cX3_invoice 7 = .ok (.ldc2_w 105, 3) := by decide +kernel
theorem dX3_invoice_10 : decode cX3_invoice 10 = .ok (.ldiv, 1) := by decide +kernel
theorem dX3_invoice_11 : decode cX3_invoice 11 = .ok (.lreturn, 1) := by decide +kernel
set_option maxRecDepth 20000 in
theorem ggX3_gap_X3_isBond : GoodIn wsX3_gap wsX3_isBond := goodIn_r _ [6, 7, 8, 9, 5, 10, 75, 76, 77, 78, 79, 80, 81, 82, 83, 84, 85, 86, 87, 88, 89, 90, 91, 92, 93, 94] (by decide +kernel) (by decide +kernel)
set_option maxRecDepth 20000 in
theorem gX3_gap_X3_isBond : GoodIn wsX3_gap (wsV RX3 87 RX3 yX3_isBond wsX3_isBond) := goodIn_app (goodIn_of _ (by decide +kernel)) ggX3_gap_X3_isBond
set_option maxRecDepth 20000 in
theorem ggX3_gap_X3_isEligible : GoodIn wsX3_gap wsX3_isEligible := goodIn_r _ [14, 15, 16, 17, 18, 19, 20, 21, 5, 22, 23, 8, 9, 10, 24, 25, 26, 27, 28, 29, 30, 31, 32, 33, 34, 35, 36, 37, 38, 39, 40, 41, 42, 43, 44, 45, 46, 75, 76, 77, 78, 79, 80, 81, 82, 83, 84, 85, 86, 87, 88, 89, 90, 91, 92, 93, 94] (by decide +kernel) (by decide +kernel)
set_option maxRecDepth 20000 in
theorem gX3_gap_X3_isEligible : GoodIn wsX3_gap (wsV RX3 120 RX3 yX3_isEligible wsX3_isEligible) := goodIn_app (goodIn_of _ (by decide +kernel)) ggX3_gap_X3_isEligible
set_option maxRecDepth 20000 in
theorem ggX3_gap_X3_isRate : GoodIn wsX3_gap wsX3_isRate := goodIn_r _ [49, 50, 8, 9, 5, 10] (by decide +kernel) (by decide +kernel)
set_option maxRecDepth 20000 in
theorem gX3_gap_X3_isRate : GoodIn wsX3_gap (va_wsS RX3 132 yX3_isRate wsX3_isRate) := goodIn_app (goodIn_of _ (by decide +kernel)) ggX3_gap_X3_isRate
set_option maxRecDepth 20000 in
theorem ggX3_gap_X3_refuse : GoodIn wsX3_gap wsX3_refuse := goodIn_r _ [54, 1, 75, 76, 77, 78, 79, 80, 81, 82, 83, 84, 85, 86, 87, 88, 89, 90, 91, 92, 93, 94] (by decide +kernel) (by decide +kernel)
set_option maxRecDepth 20000 in
theorem gX3_gap_X3_refuse : GoodIn wsX3_gap (wsV RX3 127 RX3 yX3_refuse wsX3_refuse) := goodIn_app (goodIn_of _ (by decide +kernel)) ggX3_gap_X3_refuse
set_option maxRecDepth 20000 in
theorem ggX3_gap_X3_price1 : GoodIn wsX3_gap wsX3_price1 := goodIn_r _ [58, 19, 20, 21, 5, 22, 23, 30, 31, 32, 33, 29, 34, 35, 36, 37, 38, 39, 40, 41, 42, 43, 44, 45, 46, 75, 76, 77, 78, 79, 80, 81, 82, 83, 84, 85, 86, 87, 88, 89, 90, 91, 92, 93, 94] (by decide +kernel) (by decide +kernel)
set_option maxRecDepth 20000 in
theorem gX3_gap_X3_price1 : GoodIn wsX3_gap (wsV RX3 135 RX3 yX3_price1 wsX3_price1) := goodIn_app (goodIn_of _ (by decide +kernel)) ggX3_gap_X3_price1
set_option maxRecDepth 20000 in
theorem ggX3_gap_X3_mark1 : GoodIn wsX3_gap wsX3_mark1 := goodIn_r _ [62, 29, 63, 64, 65, 5, 66, 7, 11, 12, 13, 14, 15, 16, 17, 18, 19, 20, 21, 22, 23, 8, 9, 10, 24, 25, 26, 27, 28, 30, 31, 32, 33, 34, 35, 36, 37, 38, 39, 40, 41, 42, 43, 44, 45, 46, 67, 68, 69, 70, 55, 56, 57, 58, 75, 76, 77, 78, 79, 80, 81, 82, 83, 84, 85, 86, 87, 88, 89, 90, 91, 92, 93, 94] (by decide +kernel) (by decide +kernel)
set_option maxRecDepth 20000 in
theorem gX3_gap_X3_mark1 : GoodIn wsX3_gap (wsV RX3 159 RX3 yX3_mark1 wsX3_mark1) := goodIn_app (goodIn_of _ (by decide +kernel)) ggX3_gap_X3_mark1
set_option maxRecDepth 20000 in
theorem ggX3_gap_X3_invoice : GoodIn wsX3_gap wsX3_invoice := goodIn_r _ [74, 29, 24, 25, 26, 5, 27, 28, 30, 31, 32, 33, 19, 20, 21, 22, 23, 34, 35, 36, 37, 38, 39, 40, 41, 42, 43, 44, 45, 46, 75, 76, 77, 78, 79, 80, 81, 82, 83, 84, 85, 86, 87, 88, 89, 90, 91, 92, 93, 94] (by decide +kernel) (by decide +kernel)
set_option maxRecDepth 20000 in
theorem gX3_gap_X3_invoice : GoodIn wsX3_gap (wsV RX3 164 RX3 yX3_invoice wsX3_invoice) := goodIn_app (goodIn_of _ (by decide +kernel)) ggX3_gap_X3_invoice
theorem dX3_gap_0 : decode cX3_gap 0 = .ok (.aload_n 0, 1) := by decide +kernel
theorem dX3_gap_1 : decode cX3_gap 1 = .ok (.iconst 0, 1) := by decide +kernel
theorem dX3_gap_2 : decode cX3_gap 2 = .ok (.putfield 61, 3) := by decide +kernel
theorem dX3_gap_5 : decode cX3_gap 5 = .ok (.aload_n 0, 1) := by decide +kernel
theorem dX3_gap_6 : decode cX3_gap 6 = .ok (.iload_n 1, 1) := by decide +kernel
theorem dX3_gap_7 : decode cX3_gap 7 = .ok (.invokevirtual 87, 3) := by decide +kernel
theorem dX3_gap_10 : decode cX3_gap 10 = .ok (.ifCond .eq 18, 3) := by decide +kernel
theorem dX3_gap_13 : decode cX3_gap 13 = .ok (.aload_n 0, 1) := by decide +kernel
theorem dX3_gap_14 : decode cX3_gap 14 = .ok (.iload_n 1, 1) := by decide +kernel
theorem dX3_gap_15 : decode cX3_gap 15 = .ok (.invokevirtual 120, 3) := by decide +kernel
theorem dX3_gap_18 : decode cX3_gap 18 = .ok (.ifCond .eq 10, 3) := by decide +kernel
theorem dX3_gap_21 : decode cX3_gap 21 = .ok (.iload_n 2, 1) := by decide +kernel
theorem dX3_gap_22 : decode cX3_gap 22 = .ok (.invokestatic 132, 3) := by decide +kernel
theorem dX3_gap_25 : decode cX3_gap 25 = .ok (.ifCond .ne 9, 3) := by decide +kernel
theorem dX3_gap_28 : decode cX3_gap 28 = .ok (.aload_n 0, 1) := by decide +kernel
theorem dX3_gap_29 : decode cX3_gap 29 = .ok (.invokevirtual 127, 3) := by decide +kernel
theorem dX3_gap_32 : decode cX3_gap 32 = .ok (.i2l, 1) := by decide +kernel
theorem dX3_gap_33 : decode cX3_gap 33 = .ok (.lreturn, 1) := by decide +kernel
theorem dX3_gap_34 : decode cX3_gap 34 = .ok (.aload_n 0, 1) := by decide +kernel
theorem dX3_gap_35 : decode cX3_gap 35 = .ok (.iload_n 1, 1) := by decide +kernel
theorem dX3_gap_36 : decode cX3_gap 36 = .ok (.iload_n 2, 1) := by decide +kernel
theorem dX3_gap_37 : decode cX3_gap 37 = .ok (.invokevirtual 135, 3) := by decide +kernel
theorem dX3_gap_40 : decode cX3_gap 40 = .ok (.aload_n 0, 1) := by decide +kernel
theorem dX3_gap_41 : decode cX3_gap 41 = .ok (.iload_n 1, 1) := by decide +kernel
theorem dX3_gap_42 : decode cX3_gap 42 = .ok (.aload_n 0, 1) := by decide +kernel
theorem dX3_gap_43 : decode cX3_gap 43 = .ok (.iload_n 2, 1) := by decide +kernel
theorem dX3_gap_44 : decode cX3_gap 44 = .ok (.invokevirtual 159, 3) := by decide +kernel
theorem dX3_gap_47 : decode cX3_gap 47 = .ok (.invokevirtual 164, 3) := by decide +kernel
theorem dX3_gap_50 : decode cX3_gap 50 = .ok (.lsub, 1) := by decide +kernel
theorem dX3_gap_51 : decode cX3_gap 51 = .ok (.lreturn, 1) := by decide +kernel
set_option maxRecDepth 20000 in
theorem ggX3_switches_X3_isRate : GoodIn wsX3_switches wsX3_isRate := goodIn_r _ [5, 6, 7, 8, 4, 9] (by decide +kernel) (by decide +kernel)
set_option maxRecDepth 20000 in
theorem gX3_switches_X3_isRate : GoodIn wsX3_switches (va_wsS RX3 132 yX3_isRate wsX3_isRate) := goodIn_app (goodIn_of _ (by decide +kernel)) ggX3_switches_X3_isRate
set_option maxRecDepth 20000 in
theorem ggX3_switches_X3_isAny : GoodIn wsX3_switches wsX3_isAny := goodIn_r _ [13, 14, 15, 16, 4, 17, 18, 19, 20, 21, 22, 23, 24, 25, 26, 27, 28, 29, 30, 31, 7, 8, 9, 32, 33, 34, 35, 36, 37, 38, 39, 40, 41, 42, 43, 44, 45, 46, 47, 48, 49, 50, 51, 52, 53, 54, 67, 68, 69, 70, 71, 72, 73, 74, 75, 76, 77, 78, 79, 80, 81, 82, 83, 84, 85, 86] (by decide +kernel) (by decide +kernel)
set_option maxRecDepth 20000 in
theorem gX3_switches_X3_isAny : GoodIn wsX3_switches (wsV RX3 155 RX3 yX3_isAny wsX3_isAny) := goodIn_app (goodIn_of _ (by decide +kernel)) ggX3_switches_X3_isAny
set_option maxRecDepth 20000 in
theorem ggX3_switches_X3_cheapest1 : GoodIn wsX3_switches wsX3_cheapest1 := goodIn_r _ [58, 18, 19, 20, 21, 4, 22, 23, 24, 25, 26, 27, 28, 29, 30, 31, 7, 8, 9, 32, 33, 34, 35, 36, 37, 38, 39, 40, 41, 42, 43, 44, 45, 46, 47, 48, 49, 50, 51, 52, 53, 54, 59, 60, 61, 62, 63, 64, 65, 66, 67, 68, 69, 70, 71, 72, 73, 74, 75, 76, 77, 78, 79, 80, 81, 82, 83, 84, 85, 86] (by decide +kernel) (by decide +kernel)
set_option maxRecDepth 20000 in
theorem gX3_switches_X3_cheapest1 : GoodIn wsX3_switches (wsV RX3 151 RX3 yX3_cheapest1 wsX3_cheapest1) := goodIn_app (goodIn_of _ (by decide +kernel)) ggX3_switches_X3_cheapest1
theorem dX3_switches_0 : decode cX3_switches 0 = .ok (.aload_n 0, 1) := by decide +kernel
theorem dX3_switches_1 : decode cX3_switches 1 = .ok (.iconst 0, 1) := by decide +kernel
theorem dX3_switches_2 : decode cX3_switches 2 = .ok (.putfield 61, 3) := by decide +kernel
theorem dX3_switches_5 : decode cX3_switches 5 = .ok (.iload_n 1, 1) := by decide +kernel
theorem dX3_switches_6 : decode cX3_switches 6 = .ok (.invokestatic 132, 3) := by decide +kernel
theorem dX3_switches_9 : decode cX3_switches 9 = .ok (.ifCond .eq 27, 3) := by decide +kernel
theorem dX3_switches_12 : decode cX3_switches 12 = .ok (.iload_n 2, 1) := by decide +kernel
theorem dX3_switches_13 : decode cX3_switches 13 = .ok (.invokestatic 132, 3) := by decide +kernel
theorem dX3_switches_16 : decode cX3_switches 16 = .ok (.ifCond .eq 20, 3) := by decide +kernel
theorem dX3_switches_19 : decode cX3_switches 19 = .ok (.iload_n 1, 1) := by decide +kernel
theorem dX3_switches_20 : decode cX3_switches 20 = .ok (.iload_n 2, 1) := by decide +kernel
theorem dX3_switches_21 : decode cX3_switches 21 = .ok (.if_icmp .gt 15, 3) := by decide +kernel
theorem dX3_switches_24 : decode cX3_switches 24 = .ok (.aload_n 0, 1) := by decide +kernel
theorem dX3_switches_25 : decode cX3_switches 25 = .ok (.invokevirtual 155, 3) := by decide +kernel
theorem dX3_switches_28 : decode cX3_switches 28 = .ok (.ifCond .eq 8, 3) := by decide +kernel
theorem dX3_switches_31 : decode cX3_switches 31 = .ok (.iload_n 3, 1) := by decide +kernel
theorem dX3_switches_32 : decode cX3_switches 32 = .ok (.iconst (-1), 1) := by decide +kernel
theorem dX3_switches_33 : decode cX3_switches 33 = .ok (.if_icmp .ge 5, 3) := by decide +kernel
theorem dX3_switches_36 : decode cX3_switches 36 = .ok (.iconst (-1), 1) := by decide +kernel
theorem dX3_switches_37 : decode cX3_switches 37 = .ok (.ireturn, 1) := by decide +kernel
theorem dX3_switches_38 : decode cX3_switches 38 = .ok (.iconst 0, 1) := by decide +kernel
theorem dX3_switches_39 : decode cX3_switches 39 = .ok (.istore 4, 2) := by decide +kernel
theorem dX3_switches_41 : decode cX3_switches 41 = .ok (.iload_n 1, 1) := by decide +kernel
theorem dX3_switches_42 : decode cX3_switches 42 = .ok (.iconst 1, 1) := by decide +kernel
theorem dX3_switches_43 : decode cX3_switches 43 = .ok (.iadd, 1) := by decide +kernel
theorem dX3_switches_44 : decode cX3_switches 44 = .ok (.istore 5, 2) := by decide +kernel
theorem dX3_switches_46 : decode cX3_switches 46 = .ok (.iload 5, 2) := by decide +kernel
theorem dX3_switches_48 : decode cX3_switches 48 = .ok (.iload_n 2, 1) := by decide +kernel
theorem dX3_switches_49 : decode cX3_switches 49 = .ok (.if_icmp .gt 41, 3) := by decide +kernel
theorem dX3_switches_52 : decode cX3_switches 52 = .ok (.aload_n 0, 1) := by decide +kernel
theorem dX3_switches_53 : decode cX3_switches 53 = .ok (.iload 5, 2) := by decide +kernel
theorem dX3_switches_55 : decode cX3_switches 55 = .ok (.invokevirtual 151, 3) := by decide +kernel
theorem dX3_switches_58 : decode cX3_switches 58 = .ok (.aload_n 0, 1) := by decide +kernel
theorem dX3_switches_59 : decode cX3_switches 59 = .ok (.iload 5, 2) := by decide +kernel
theorem dX3_switches_61 : decode cX3_switches 61 = .ok (.iconst 1, 1) := by decide +kernel
theorem dX3_switches_62 : decode cX3_switches 62 = .ok (.isub, 1) := by decide +kernel
theorem dX3_switches_63 : decode cX3_switches 63 = .ok (.invokevirtual 151, 3) := by decide +kernel
theorem dX3_switches_66 : decode cX3_switches 66 = .ok (.if_icmp .ne 6, 3) := by decide +kernel
theorem dX3_switches_69 : decode cX3_switches 69 = .ok (.goto 15, 3) := by decide +kernel
theorem dX3_switches_72 : decode cX3_switches 72 = .ok (.iload 4, 2) := by decide +kernel
theorem dX3_switches_74 : decode cX3_switches 74 = .ok (.iload_n 3, 1) := by decide +kernel
theorem dX3_switches_75 : decode cX3_switches 75 = .ok (.if_icmp .ne 6, 3) := by decide +kernel
theorem dX3_switches_78 : decode cX3_switches 78 = .ok (.iload 5, 2) := by decide +kernel
theorem dX3_switches_80 : decode cX3_switches 80 = .ok (.ireturn, 1) := by decide +kernel
theorem dX3_switches_81 : decode cX3_switches 81 = .ok (.iinc 4 1, 3) := by decide +kernel
theorem dX3_switches_84 : decode cX3_switches 84 = .ok (.iinc 5 1, 3) := by decide +kernel
theorem dX3_switches_87 : decode cX3_switches 87 = .ok (.goto (-41), 3) := by decide +kernel
theorem dX3_switches_90 : decode cX3_switches 90 = .ok (.iload_n 3, 1) := by decide +kernel
theorem dX3_switches_91 : decode cX3_switches 91 = .ok (.iconst (-1), 1) := by decide +kernel
theorem dX3_switches_92 : decode cX3_switches 92 = .ok (.if_icmp .ne 8, 3) := by decide +kernel
theorem dX3_switches_95 : decode cX3_switches 95 = .ok (.iload 4, 2) := by decide +kernel
theorem dX3_switches_97 : decode cX3_switches 97 = .ok (.goto 4, 3) := by decide +kernel
theorem dX3_switches_100 : decode cX3_switches 100 = .ok (.iconst (-1), 1) := by decide +kernel
theorem dX3_switches_101 : decode cX3_switches 101 = .ok (.ireturn, 1) := by decide +kernel
set_option maxRecDepth 20000 in
theorem ggX3_implied_X3_isAny : GoodIn wsX3_implied wsX3_isAny := goodIn_r _ [6, 7, 8, 9, 5, 10, 11, 12, 13, 14, 15, 16, 17, 18, 19, 20, 21, 22, 23, 24, 25, 26, 27, 28, 29, 30, 31, 32, 33, 34, 35, 36, 37, 38, 39, 40, 41, 42, 43, 44, 45, 46, 47, 48, 49, 50, 67, 68, 69, 70, 71, 72, 73, 74, 75, 76, 77, 78, 79, 80, 81, 82, 83, 84, 85, 86] (by decide +kernel) (by decide +kernel)
set_option maxRecDepth 20000 in
theorem gX3_implied_X3_isAny : GoodIn wsX3_implied (wsV RX3 155 RX3 yX3_isAny wsX3_isAny) := goodIn_app (goodIn_of _ (by decide +kernel)) ggX3_implied_X3_isAny
set_option maxRecDepth 20000 in
theorem ggX3_implied_X3_mark1 : GoodIn wsX3_implied wsX3_mark1 := goodIn_r _ [54, 33, 55, 56, 57, 5, 58, 11, 12, 13, 14, 15, 16, 17, 18, 19, 20, 21, 22, 23, 24, 25, 26, 27, 28, 29, 30, 31, 32, 34, 35, 36, 37, 38, 39, 40, 41, 42, 43, 44, 45, 46, 47, 48, 49, 50, 59, 60, 61, 62, 63, 64, 65, 66, 67, 68, 69, 70, 71, 72, 73, 74, 75, 76, 77, 78, 79, 80, 81, 82, 83, 84, 85, 86] (by decide +kernel) (by decide +kernel)
set_option maxRecDepth 20000 in
theorem gX3_implied_X3_mark1 : GoodIn wsX3_implied (wsV RX3 159 RX3 yX3_mark1 wsX3_mark1) := goodIn_app (goodIn_of _ (by decide +kernel)) ggX3_implied_X3_mark1
theorem dX3_implied_0 : decode cX3_implied 0 = .ok (.aload_n 0, 1) := by decide +kernel
theorem dX3_implied_1 : decode cX3_implied 1 = .ok (.iconst 0, 1) := by decide +kernel
theorem dX3_implied_2 : decode cX3_implied 2 = .ok (.putfield 61, 3) := by decide +kernel
theorem dX3_implied_5 : decode cX3_implied 5 = .ok (.aload_n 0, 1) := by decide +kernel
theorem dX3_implied_6 : decode cX3_implied 6 = .ok (.invokevirtual 155, 3) := by decide +kernel
theorem dX3_implied_9 : decode cX3_implied 9 = .ok (.ifCond .ne 5, 3) := by decide +kernel
theorem dX3_implied_12 : decode cX3_implied 12 = .ok (.iconst (-1), 1) := by decide +kernel
theorem dX3_implied_13 : decode cX3_implied 13 = .ok (.ireturn, 1) := by decide +kernel
theorem dX3_implied_14 : decode cX3_implied 14 = .ok (.iconst 0, 1) := by decide +kernel
theorem dX3_implied_15 : decode cX3_implied 15 = .ok (.istore_n 3, 1) := by decide +kernel
theorem dX3_implied_16 : decode cX3_implied 16 = .ok (.iload_n 3, 1) := by decide +kernel
theorem dX3_implied_17 : decode cX3_implied 17 = .ok (.sipush 3000, 3) := by decide +kernel
theorem dX3_implied_20 : decode cX3_implied 20 = .ok (.if_icmp .gt 21, 3) := by decide +kernel
theorem dX3_implied_23 : decode cX3_implied 23 = .ok (.aload_n 0, 1) := by decide +kernel
theorem dX3_implied_24 : decode cX3_implied 24 = .ok (.iload_n 3, 1) := by decide +kernel
theorem dX3_implied_25 : decode cX3_implied 25 = .ok (.invokevirtual 159, 3) := by decide +kernel
theorem dX3_implied_28 : decode cX3_implied 28 = .ok (.lload_n 1, 1) := by decide +kernel
theorem dX3_implied_29 : decode cX3_implied 29 = .ok (.lcmp, 1) := by decide +kernel
theorem dX3_implied_30 : decode cX3_implied 30 = .ok (.ifCond .gt 5, 3) := by decide +kernel
theorem dX3_implied_33 : decode cX3_implied 33 = .ok (.iload_n 3, 1) := by decide +kernel
theorem dX3_implied_34 : decode cX3_implied 34 = .ok (.ireturn, 1) := by decide +kernel
theorem dX3_implied_35 : decode cX3_implied 35 = .ok (.iinc 3 1, 3) := by decide +kernel
theorem dX3_implied_38 : decode cX3_implied 38 = .ok (.goto (-22), 3) := by decide +kernel
theorem dX3_implied_41 : decode cX3_implied 41 = .ok (.iconst (-1), 1) := by decide +kernel
theorem dX3_implied_42 : decode cX3_implied 42 = .ok (.ireturn, 1) := by decide +kernel
set_option maxRecDepth 20000 in
theorem ggX3_meets_X3_price1 : GoodIn wsX3_meets wsX3_price1 := goodIn_r _ [8, 9, 10, 11, 7, 12, 13, 14, 15, 16, 17, 18, 19, 20, 21, 22, 23, 24, 25, 26, 27, 28, 29, 30, 31, 52, 53, 54, 55, 56, 57, 58, 59, 60, 61, 62, 63, 64, 65, 66, 67, 68, 69, 70, 71] (by decide +kernel) (by decide +kernel)
set_option maxRecDepth 20000 in
theorem gX3_meets_X3_price1 : GoodIn wsX3_meets (wsV RX3 135 RX3 yX3_price1 wsX3_price1) := goodIn_app (goodIn_of _ (by decide +kernel)) ggX3_meets_X3_price1
set_option maxRecDepth 20000 in
theorem ggX3_meets_X3_invoice : GoodIn wsX3_meets wsX3_invoice := goodIn_r _ [35, 18, 36, 37, 38, 7, 39, 40, 14, 15, 16, 17, 9, 10, 11, 12, 13, 19, 20, 21, 22, 23, 24, 25, 26, 27, 28, 29, 30, 31, 52, 53, 54, 55, 56, 57, 58, 59, 60, 61, 62, 63, 64, 65, 66, 67, 68, 69, 70, 71] (by decide +kernel) (by decide +kernel)
set_option maxRecDepth 20000 in
theorem gX3_meets_X3_invoice : GoodIn wsX3_meets (wsV RX3 164 RX3 yX3_invoice wsX3_invoice) := goodIn_app (goodIn_of _ (by decide +kernel)) ggX3_meets_X3_invoice
set_option maxRecDepth 20000 in
theorem ggX3_meets_X3_isEligible : GoodIn wsX3_meets wsX3_isEligible := goodIn_r _ [44, 45, 46, 47, 48, 9, 10, 11, 7, 12, 13, 49, 50, 51, 36, 37, 38, 39, 40, 18, 14, 15, 16, 17, 19, 20, 21, 22, 23, 24, 25, 26, 27, 28, 29, 30, 31, 52, 53, 54, 55, 56, 57, 58, 59, 60, 61, 62, 63, 64, 65, 66, 67, 68, 69, 70, 71] (by decide +kernel) (by decide +kernel)
set_option maxRecDepth 20000 in
theorem gX3_meets_X3_isEligible : GoodIn wsX3_meets (wsV RX3 120 RX3 yX3_isEligible wsX3_isEligible) := goodIn_app (goodIn_of _ (by decide +kernel)) ggX3_meets_X3_isEligible
set_option maxRecDepth 20000 in
theorem ggX3_meets_X3_of1 : GoodIn wsX3_meets wsX3_of1 := goodIn_r _ [12, 13, 52, 53, 54, 55, 56, 57, 58, 59, 60, 61, 62, 63, 64, 65, 66, 67, 68, 69, 70, 71] (by decide +kernel) (by decide +kernel)
set_option maxRecDepth 20000 in
theorem gX3_meets_X3_of1 : GoodIn wsX3_meets (wsV RX3 95 RX3 yX3_of1 wsX3_of1) := goodIn_app (goodIn_of _ (by decide +kernel)) ggX3_meets_X3_of1
theorem dX3_meets_0 : decode cX3_meets 0 = .ok (.iload_n 1, 1) := by decide +kernel
theorem dX3_meets_1 : decode cX3_meets 1 = .ok (.istore 4, 2) := by decide +kernel
theorem dX3_meets_3 : decode cX3_meets 3 = .ok (.iconst 0, 1) := by decide +kernel
theorem dX3_meets_4 : decode cX3_meets 4 = .ok (.istore 5, 2) := by decide +kernel
theorem dX3_meets_6 : decode cX3_meets 6 = .ok (.iconst 0, 1) := by decide +kernel
theorem dX3_meets_7 : decode cX3_meets 7 = .ok (.istore 6, 2) := by decide +kernel
theorem dX3_meets_9 : decode cX3_meets 9 = .ok (.iload 6, 2) := by decide +kernel
theorem dX3_meets_11 : decode cX3_meets 11 = .ok (.aload_n 0, 1) := by decide +kernel
theorem dX3_meets_12 : decode cX3_meets 12 = .ok (.getfield 64, 3) := by decide +kernel
theorem dX3_meets_15 : decode cX3_meets 15 = .ok (.if_icmp .ge 40, 3) := by decide +kernel
theorem dX3_meets_18 : decode cX3_meets 18 = .ok (.aload_n 0, 1) := by decide +kernel
theorem dX3_meets_19 : decode cX3_meets 19 = .ok (.getfield 39, 3) := by decide +kernel
theorem dX3_meets_22 : decode cX3_meets 22 = .ok (.iload 6, 2) := by decide +kernel
theorem dX3_meets_24 : decode cX3_meets 24 = .ok (.iconst 0, 1) := by decide +kernel
theorem dX3_meets_25 : decode cX3_meets 25 = .ok (.iastore, 1) := by decide +kernel
theorem dX3_meets_26 : decode cX3_meets 26 = .ok (.aload_n 0, 1) := by decide +kernel
theorem dX3_meets_27 : decode cX3_meets 27 = .ok (.getfield 42, 3) := by decide +kernel
theorem dX3_meets_30 : decode cX3_meets 30 = .ok (.iload 6, 2) := by decide +kernel
theorem dX3_meets_32 : decode cX3_meets 32 = .ok (.aload_n 0, 1) := by decide +kernel
theorem dX3_meets_33 : decode cX3_meets 33 = .ok (.iload 6, 2) := by decide +kernel
theorem dX3_meets_35 : decode cX3_meets 35 = .ok (.iload_n 2, 1) := by decide +kernel
theorem dX3_meets_36 : decode cX3_meets 36 = .ok (.invokevirtual 135, 3) := by decide +kernel
theorem dX3_meets_39 : decode cX3_meets 39 = .ok (.aload_n 0, 1) := by decide +kernel
theorem dX3_meets_40 : decode cX3_meets 40 = .ok (.iload 6, 2) := by decide +kernel
theorem dX3_meets_42 : decode cX3_meets 42 = .ok (.iload_n 3, 1) := by decide +kernel
theorem dX3_meets_43 : decode cX3_meets 43 = .ok (.i2l, 1) := by decide +kernel
theorem dX3_meets_44 : decode cX3_meets 44 = .ok (.invokevirtual 164, 3) := by decide +kernel
theorem dX3_meets_47 : decode cX3_meets 47 = .ok (.lsub, 1) := by decide +kernel
theorem dX3_meets_48 : decode cX3_meets 48 = .ok (.lastore, 1) := by decide +kernel
theorem dX3_meets_49 : decode cX3_meets 49 = .ok (.iinc 6 1, 3) := by decide +kernel
theorem dX3_meets_52 : decode cX3_meets 52 = .ok (.goto (-43), 3) := by decide +kernel
theorem dX3_meets_55 : decode cX3_meets 55 = .ok (.iload 4, 2) := by decide +kernel
theorem dX3_meets_57 : decode cX3_meets 57 = .ok (.ifCond .le 134, 3) := by decide +kernel
theorem dX3_meets_60 : decode cX3_meets 60 = .ok (.iconst (-1), 1) := by decide +kernel
theorem dX3_meets_61 : decode cX3_meets 61 = .ok (.istore 6, 2) := by decide +kernel
theorem dX3_meets_63 : decode cX3_meets 63 = .ok (.iconst 0, 1) := by decide +kernel
theorem dX3_meets_64 : decode cX3_meets 64 = .ok (.istore 7, 2) := by decide +kernel
theorem dX3_meets_66 : decode cX3_meets 66 = .ok (.iload 7, 2) := by decide +kernel
theorem dX3_meets_68 : decode cX3_meets 68 = .ok (.aload_n 0, 1) := by decide +kernel
theorem dX3_meets_69 : decode cX3_meets 69 = .ok (.getfield 64, 3) := by decide +kernel
theorem dX3_meets_72 : decode cX3_meets 72 = .ok (.if_icmp .ge 56, 3) := by decide +kernel
theorem dX3_meets_75 : decode cX3_meets 75 = .ok (.aload_n 0, 1) := by decide +kernel
theorem dX3_meets_76 : decode cX3_meets 76 = .ok (.iload 7, 2) := by decide +kernel
theorem dX3_meets_78 : decode cX3_meets 78 = .ok (.invokevirtual 120, 3) := by decide +kernel
theorem dX3_meets_81 : decode cX3_meets 81 = .ok (.ifCond .eq 41, 3) := by decide +kernel
theorem dX3_meets_84 : decode cX3_meets 84 = .ok (.iload 5, 2) := by decide +kernel
theorem dX3_meets_86 : decode cX3_meets 86 = .ok (.iload 7, 2) := by decide +kernel
theorem dX3_meets_88 : decode cX3_meets 88 = .ok (.ishr, 1) := by decide +kernel
theorem dX3_meets_89 : decode cX3_meets 89 = .ok (.iconst 1, 1) := by decide +kernel
theorem dX3_meets_90 : decode cX3_meets 90 = .ok (.iand, 1) := by decide +kernel
theorem dX3_meets_91 : decode cX3_meets 91 = .ok (.ifCond .ne 31, 3) := by decide +kernel
theorem dX3_meets_94 : decode cX3_meets 94 = .ok (.iload 6, 2) := by decide +kernel
theorem dX3_meets_96 : decode cX3_meets 96 = .ok (.iconst (-1), 1) := by decide +kernel
theorem dX3_meets_97 : decode cX3_meets 97 = .ok (.if_icmp .eq 21, 3) := by decide +kernel
theorem dX3_meets_100 : decode cX3_meets 100 = .ok (.aload_n 0, 1) := by decide +kernel
theorem dX3_meets_101 : decode cX3_meets 101 = .ok (.getfield 42, 3) := by decide +kernel
theorem dX3_meets_104 : decode cX3_meets 104 = .ok (.iload 7, 2) := by decide +kernel
theorem dX3_meets_106 : decode cX3_meets 106 = .ok (.laload, 1) := by decide +kernel
theorem dX3_meets_107 : decode cX3_meets 107 = .ok (.aload_n 0, 1) := by decide +kernel
theorem dX3_meets_108 : decode cX3_meets 108 = .ok (.getfield 42, 3) := by decide +kernel
theorem dX3_meets_111 : decode cX3_meets 111 = .ok (.iload 6, 2) := by decide +kernel
theorem dX3_meets_113 : decode cX3_meets 113 = .ok (.laload, 1) := by decide +kernel
theorem dX3_meets_114 : decode cX3_meets 114 = .ok (.lcmp, 1) := by decide +kernel
theorem dX3_meets_115 : decode cX3_meets 115 = .ok (.ifCond .ge 7, 3) := by decide +kernel
theorem dX3_meets_118 : decode cX3_meets 118 = .ok (.iload 7, 2) := by decide +kernel
theorem dX3_meets_120 : decode cX3_meets 120 = .ok (.istore 6, 2) := by decide +kernel
theorem dX3_meets_122 : decode cX3_meets 122 = .ok (.iinc 7 1, 3) := by decide +kernel
theorem dX3_meets_125 : decode cX3_meets 125 = .ok (.goto (-59), 3) := by decide +kernel
theorem dX3_meets_128 : decode cX3_meets 128 = .ok (.iload 6, 2) := by decide +kernel
theorem dX3_meets_130 : decode cX3_meets 130 = .ok (.iconst (-1), 1) := by decide +kernel
theorem dX3_meets_131 : decode cX3_meets 131 = .ok (.if_icmp .ne 5, 3) := by decide +kernel
theorem dX3_meets_134 : decode cX3_meets 134 = .ok (.iconst 0, 1) := by decide +kernel
theorem dX3_meets_135 : decode cX3_meets 135 = .ok (.ireturn, 1) := by decide +kernel
theorem dX3_meets_136 : decode cX3_meets 136 = .ok (.iload 5, 2) := by decide +kernel
theorem dX3_meets_138 : decode cX3_meets 138 = .ok (.iconst 1, 1) := by decide +kernel
theorem dX3_meets_139 : decode cX3_meets 139 = .ok (.iload 6, 2) := by decide +kernel
theorem dX3_meets_141 : decode cX3_meets 141 = .ok (.ishl, 1) := by decide +kernel
theorem dX3_meets_142 : decode cX3_meets 142 = .ok (.ior, 1) := by decide +kernel
theorem dX3_meets_143 : decode cX3_meets 143 = .ok (.istore 5, 2) := by decide +kernel
theorem dX3_meets_145 : decode cX3_meets 145 = .ok (.aload_n 0, 1) := by decide +kernel
theorem dX3_meets_146 : decode cX3_meets 146 = .ok (.getfield 39, 3) := by decide +kernel
theorem dX3_meets_149 : decode cX3_meets 149 = .ok (.iload 6, 2) := by decide +kernel
theorem dX3_meets_151 : decode cX3_meets 151 = .ok (.aload_n 0, 1) := by decide +kernel
theorem dX3_meets_152 : decode cX3_meets 152 = .ok (.iload 6, 2) := by decide +kernel
theorem dX3_meets_154 : decode cX3_meets 154 = .ok (.iconst 5, 1) := by decide +kernel
theorem dX3_meets_155 : decode cX3_meets 155 = .ok (.invokevirtual 95, 3) := by decide +kernel
theorem dX3_meets_158 : decode cX3_meets 158 = .ok (.iload 4, 2) := by decide +kernel
theorem dX3_meets_160 : decode cX3_meets 160 = .ok (.if_icmp .ge 13, 3) := by decide +kernel
theorem dX3_meets_163 : decode cX3_meets 163 = .ok (.aload_n 0, 1) := by decide +kernel
theorem dX3_meets_164 : decode cX3_meets 164 = .ok (.iload 6, 2) := by decide +kernel
theorem dX3_meets_166 : decode cX3_meets 166 = .ok (.iconst 5, 1) := by decide +kernel
theorem dX3_meets_167 : decode cX3_meets 167 = .ok (.invokevirtual 95, 3) := by decide +kernel
theorem dX3_meets_170 : decode cX3_meets 170 = .ok (.goto 5, 3) := by decide +kernel
theorem dX3_meets_173 : decode cX3_meets 173 = .ok (.iload 4, 2) := by decide +kernel
theorem dX3_meets_175 : decode cX3_meets 175 = .ok (.iastore, 1) := by decide +kernel
theorem dX3_meets_176 : decode cX3_meets 176 = .ok (.iload 4, 2) := by decide +kernel
theorem dX3_meets_178 : decode cX3_meets 178 = .ok (.aload_n 0, 1) := by decide +kernel
theorem dX3_meets_179 : decode cX3_meets 179 = .ok (.getfield 39, 3) := by decide +kernel
theorem dX3_meets_182 : decode cX3_meets 182 = .ok (.iload 6, 2) := by decide +kernel
theorem dX3_meets_184 : decode cX3_meets 184 = .ok (.iaload, 1) := by decide +kernel
theorem dX3_meets_185 : decode cX3_meets 185 = .ok (.isub, 1) := by decide +kernel
theorem dX3_meets_186 : decode cX3_meets 186 = .ok (.istore 4, 2) := by decide +kernel
theorem dX3_meets_188 : decode cX3_meets 188 = .ok (.goto (-133), 3) := by decide +kernel
theorem dX3_meets_191 : decode cX3_meets 191 = .ok (.iconst 1, 1) := by decide +kernel
theorem dX3_meets_192 : decode cX3_meets 192 = .ok (.ireturn, 1) := by decide +kernel
set_option maxRecDepth 20000 in
theorem ggX3_isMeeting_X3_isIn : GoodIn wsX3_isMeeting wsX3_isIn := goodIn_r _ [6] (by decide +kernel) (by decide +kernel)
set_option maxRecDepth 20000 in
theorem gX3_isMeeting_X3_isIn : GoodIn wsX3_isMeeting (va_wsS RX3 67 yX3_isIn wsX3_isIn) := goodIn_app (goodIn_of _ (by decide +kernel)) ggX3_isMeeting_X3_isIn
set_option maxRecDepth 20000 in
theorem ggX3_isMeeting_X3_isRate : GoodIn wsX3_isMeeting wsX3_isRate := goodIn_r _ [9, 10, 3, 4, 5, 6] (by decide +kernel) (by decide +kernel)
set_option maxRecDepth 20000 in
theorem gX3_isMeeting_X3_isRate : GoodIn wsX3_isMeeting (va_wsS RX3 132 yX3_isRate wsX3_isRate) := goodIn_app (goodIn_of _ (by decide +kernel)) ggX3_isMeeting_X3_isRate
theorem dX3_isMeeting_0 : decode cX3_isMeeting 0 = .ok (.iload_n 0, 1) := by decide +kernel
theorem dX3_isMeeting_1 : decode cX3_isMeeting 1 = .ok (.i2l, 1) := by decide +kernel
theorem dX3_isMeeting_2 : decode cX3_isMeeting 2 = .ok (.lconst 0, 1) := by decide +kernel
theorem dX3_isMeeting_3 : decode cX3_isMeeting 3 = .ok (.ldc2_w 79, 3) := by decide +kernel
theorem dX3_isMeeting_6 : decode cX3_isMeeting 6 = .ok (.invokestatic 67, 3) := by decide +kernel
theorem dX3_isMeeting_9 : decode cX3_isMeeting 9 = .ok (.ifCond .eq 26, 3) := by decide +kernel
theorem dX3_isMeeting_12 : decode cX3_isMeeting 12 = .ok (.iload_n 1, 1) := by decide +kernel
theorem dX3_isMeeting_13 : decode cX3_isMeeting 13 = .ok (.invokestatic 132, 3) := by decide +kernel
theorem dX3_isMeeting_16 : decode cX3_isMeeting 16 = .ok (.ifCond .eq 19, 3) := by decide +kernel
theorem dX3_isMeeting_19 : decode cX3_isMeeting 19 = .ok (.iload_n 2, 1) := by decide +kernel
theorem dX3_isMeeting_20 : decode cX3_isMeeting 20 = .ok (.i2l, 1) := by decide +kernel
theorem dX3_isMeeting_21 : decode cX3_isMeeting 21 = .ok (.lconst 0, 1) := by decide +kernel
theorem dX3_isMeeting_22 : decode cX3_isMeeting 22 = .ok (.ldc2_w 168, 3) := by decide +kernel
theorem dX3_isMeeting_25 : decode cX3_isMeeting 25 = .ok (.invokestatic 67, 3) := by decide +kernel
theorem dX3_isMeeting_28 : decode cX3_isMeeting 28 = .ok (.ifCond .eq 7, 3) := by decide +kernel
theorem dX3_isMeeting_31 : decode cX3_isMeeting 31 = .ok (.iconst 1, 1) := by decide +kernel
theorem dX3_isMeeting_32 : decode cX3_isMeeting 32 = .ok (.goto 4, 3) := by decide +kernel
theorem dX3_isMeeting_35 : decode cX3_isMeeting 35 = .ok (.iconst 0, 1) := by decide +kernel
theorem dX3_isMeeting_36 : decode cX3_isMeeting 36 = .ok (.ireturn, 1) := by decide +kernel
set_option maxRecDepth 20000 in
theorem ggX3_meet_X3_isMeeting : GoodIn wsX3_meet wsX3_isMeeting := goodIn_r _ [6, 7, 8, 9, 10, 5, 11, 12, 13, 14, 15] (by decide +kernel) (by decide +kernel)
set_option maxRecDepth 20000 in
theorem gX3_meet_X3_isMeeting : GoodIn wsX3_meet (va_wsS RX3 170 yX3_isMeeting wsX3_isMeeting) := goodIn_app (goodIn_of _ (by decide +kernel)) ggX3_meet_X3_isMeeting
set_option maxRecDepth 20000 in
theorem ggX3_meet_X3_isBond : GoodIn wsX3_meet wsX3_isBond := goodIn_r _ [19, 20, 9, 10, 5, 11, 70, 71, 72, 73, 74, 75, 76, 77, 78, 79, 80, 81, 82, 83, 84, 85, 86, 87, 88, 89] (by decide +kernel) (by decide +kernel)
set_option maxRecDepth 20000 in
theorem gX3_meet_X3_isBond : GoodIn wsX3_meet (wsV RX3 87 RX3 yX3_isBond wsX3_isBond) := goodIn_app (goodIn_of _ (by decide +kernel)) ggX3_meet_X3_isBond
set_option maxRecDepth 20000 in
theorem ggX3_meet_X3_meets : GoodIn wsX3_meet wsX3_meets := goodIn_r _ [24, 20, 2, 25, 26, 27, 28, 5, 29, 30, 31, 32, 33, 34, 35, 36, 37, 38, 39, 40, 41, 42, 43, 44, 45, 46, 47, 48, 49, 50, 51, 52, 53, 54, 55, 56, 57, 58, 59, 60, 61, 62, 63, 64, 65, 66, 67, 68, 69, 9, 10, 11, 70, 71, 72, 73, 74, 75, 76, 77, 78, 79, 80, 81, 82, 83, 84, 85, 86, 87, 88, 89] (by decide +kernel) (by decide +kernel)
set_option maxRecDepth 20000 in
theorem gX3_meet_X3_meets : GoodIn wsX3_meet (wsV RX3 173 RX3 yX3_meets wsX3_meets) := goodIn_app (goodIn_of _ (by decide +kernel)) ggX3_meet_X3_meets
theorem dX3_meet_0 : decode cX3_meet 0 = .ok (.aload_n 0, 1) := by decide +kernel
theorem dX3_meet_1 : decode cX3_meet 1 = .ok (.iconst 0, 1) := by decide +kernel
theorem dX3_meet_2 : decode cX3_meet 2 = .ok (.putfield 61, 3) := by decide +kernel
theorem dX3_meet_5 : decode cX3_meet 5 = .ok (.iload_n 1, 1) := by decide +kernel
theorem dX3_meet_6 : decode cX3_meet 6 = .ok (.iload_n 2, 1) := by decide +kernel
theorem dX3_meet_7 : decode cX3_meet 7 = .ok (.iload_n 3, 1) := by decide +kernel
theorem dX3_meet_8 : decode cX3_meet 8 = .ok (.invokestatic 170, 3) := by decide +kernel
theorem dX3_meet_11 : decode cX3_meet 11 = .ok (.ifCond .eq 18, 3) := by decide +kernel
theorem dX3_meet_14 : decode cX3_meet 14 = .ok (.iload 4, 2) := by decide +kernel
theorem dX3_meet_16 : decode cX3_meet 16 = .ok (.iconst (-1), 1) := by decide +kernel
theorem dX3_meet_17 : decode cX3_meet 17 = .ok (.if_icmp .eq 14, 3) := by decide +kernel
theorem dX3_meet_20 : decode cX3_meet 20 = .ok (.aload_n 0, 1) := by decide +kernel
theorem dX3_meet_21 : decode cX3_meet 21 = .ok (.iload 4, 2) := by decide +kernel
theorem dX3_meet_23 : decode cX3_meet 23 = .ok (.invokevirtual 87, 3) := by decide +kernel
theorem dX3_meet_26 : decode cX3_meet 26 = .ok (.ifCond .ne 5, 3) := by decide +kernel
theorem dX3_meet_29 : decode cX3_meet 29 = .ok (.iconst (-1), 1) := by decide +kernel
theorem dX3_meet_30 : decode cX3_meet 30 = .ok (.ireturn, 1) := by decide +kernel
theorem dX3_meet_31 : decode cX3_meet 31 = .ok (.aload_n 0, 1) := by decide +kernel
theorem dX3_meet_32 : decode cX3_meet 32 = .ok (.iload_n 1, 1) := by decide +kernel
theorem dX3_meet_33 : decode cX3_meet 33 = .ok (.iload_n 2, 1) := by decide +kernel
theorem dX3_meet_34 : decode cX3_meet 34 = .ok (.iload_n 3, 1) := by decide +kernel
theorem dX3_meet_35 : decode cX3_meet 35 = .ok (.invokevirtual 173, 3) := by decide +kernel
theorem dX3_meet_38 : decode cX3_meet 38 = .ok (.istore 5, 2) := by decide +kernel
theorem dX3_meet_40 : decode cX3_meet 40 = .ok (.iload 4, 2) := by decide +kernel
theorem dX3_meet_42 : decode cX3_meet 42 = .ok (.iconst (-1), 1) := by decide +kernel
theorem dX3_meet_43 : decode cX3_meet 43 = .ok (.if_icmp .ne 14, 3) := by decide +kernel
theorem dX3_meet_46 : decode cX3_meet 46 = .ok (.iload 5, 2) := by decide +kernel
theorem dX3_meet_48 : decode cX3_meet 48 = .ok (.ifCond .eq 7, 3) := by decide +kernel
theorem dX3_meet_51 : decode cX3_meet 51 = .ok (.iconst 1, 1) := by decide +kernel
theorem dX3_meet_52 : decode cX3_meet 52 = .ok (.goto 4, 3) := by decide +kernel
theorem dX3_meet_55 : decode cX3_meet 55 = .ok (.iconst 0, 1) := by decide +kernel
theorem dX3_meet_56 : decode cX3_meet 56 = .ok (.ireturn, 1) := by decide +kernel
theorem dX3_meet_57 : decode cX3_meet 57 = .ok (.iload 5, 2) := by decide +kernel
theorem dX3_meet_59 : decode cX3_meet 59 = .ok (.ifCond .eq 13, 3) := by decide +kernel
theorem dX3_meet_62 : decode cX3_meet 62 = .ok (.aload_n 0, 1) := by decide +kernel
theorem dX3_meet_63 : decode cX3_meet 63 = .ok (.getfield 39, 3) := by decide +kernel
theorem dX3_meet_66 : decode cX3_meet 66 = .ok (.iload 4, 2) := by decide +kernel
theorem dX3_meet_68 : decode cX3_meet 68 = .ok (.iaload, 1) := by decide +kernel
theorem dX3_meet_69 : decode cX3_meet 69 = .ok (.goto 4, 3) := by decide +kernel
theorem dX3_meet_72 : decode cX3_meet 72 = .ok (.iconst (-1), 1) := by decide +kernel
theorem dX3_meet_73 : decode cX3_meet 73 = .ok (.ireturn, 1) := by decide +kernel
set_option maxRecDepth 20000 in
theorem ggX3_cost_X3_isMeeting : GoodIn wsX3_cost wsX3_isMeeting := goodIn_r _ [8, 9, 10, 11, 12, 7, 13, 14, 15, 16, 17] (by decide +kernel) (by decide +kernel)
set_option maxRecDepth 20000 in
theorem gX3_cost_X3_isMeeting : GoodIn wsX3_cost (va_wsS RX3 170 yX3_isMeeting wsX3_isMeeting) := goodIn_app (goodIn_of _ (by decide +kernel)) ggX3_cost_X3_isMeeting
set_option maxRecDepth 20000 in
theorem ggX3_cost_X3_meets : GoodIn wsX3_cost wsX3_meets := goodIn_r _ [21, 2, 3, 4, 22, 23, 24, 7, 25, 26, 27, 28, 29, 30, 31, 32, 33, 34, 35, 36, 37, 38, 39, 40, 41, 42, 43, 44, 45, 46, 47, 48, 49, 50, 51, 52, 53, 54, 55, 56, 57, 58, 59, 60, 61, 62, 63, 64, 65, 11, 12, 13, 70, 71, 72, 73, 74, 75, 76, 77, 78, 79, 80, 81, 82, 83, 84, 85, 86, 87, 88, 89] (by decide +kernel) (by decide +kernel)
set_option maxRecDepth 20000 in
theorem gX3_cost_X3_meets : GoodIn wsX3_cost (wsV RX3 173 RX3 yX3_meets wsX3_meets) := goodIn_app (goodIn_of _ (by decide +kernel)) ggX3_cost_X3_meets
set_option maxRecDepth 20000 in
theorem ggX3_cost_X3_refuse : GoodIn wsX3_cost wsX3_refuse := goodIn_r _ [69, 1, 70, 71, 72, 73, 74, 75, 76, 77, 78, 79, 80, 81, 82, 83, 84, 85, 86, 87, 88, 89] (by decide +kernel) (by decide +kernel)
set_option maxRecDepth 20000 in
theorem gX3_cost_X3_refuse : GoodIn wsX3_cost (wsV RX3 127 RX3 yX3_refuse wsX3_refuse) := goodIn_app (goodIn_of _ (by decide +kernel)) ggX3_cost_X3_refuse
theorem dX3_cost_0 : decode cX3_cost 0 = .ok (.aload_n 0, 1) := by decide +kernel
theorem dX3_cost_1 : decode cX3_cost 1 = .ok (.iconst 0, 1) := by decide +kernel
theorem dX3_cost_2 : decode cX3_cost 2 = .ok (.putfield 61, 3) := by decide +kernel
theorem dX3_cost_5 : decode cX3_cost 5 = .ok (.iload_n 1, 1) := by decide +kernel
theorem dX3_cost_6 : decode cX3_cost 6 = .ok (.iload_n 2, 1) := by decide +kernel
theorem dX3_cost_7 : decode cX3_cost 7 = .ok (.iload_n 3, 1) := by decide +kernel
theorem dX3_cost_8 : decode cX3_cost 8 = .ok (.invokestatic 170, 3) := by decide +kernel
theorem dX3_cost_11 : decode cX3_cost 11 = .ok (.ifCond .eq 13, 3) := by decide +kernel
theorem dX3_cost_14 : decode cX3_cost 14 = .ok (.aload_n 0, 1) := by decide +kernel
theorem dX3_cost_15 : decode cX3_cost 15 = .ok (.iload_n 1, 1) := by decide +kernel
theorem dX3_cost_16 : decode cX3_cost 16 = .ok (.iload_n 2, 1) := by decide +kernel
theorem dX3_cost_17 : decode cX3_cost 17 = .ok (.iload_n 3, 1) := by decide +kernel
theorem dX3_cost_18 : decode cX3_cost 18 = .ok (.invokevirtual 173, 3) := by decide +kernel
theorem dX3_cost_21 : decode cX3_cost 21 = .ok (.ifCond .ne 9, 3) := by decide +kernel
theorem dX3_cost_24 : decode cX3_cost 24 = .ok (.aload_n 0, 1) := by decide +kernel
theorem dX3_cost_25 : decode cX3_cost 25 = .ok (.invokevirtual 127, 3) := by decide +kernel
theorem dX3_cost_28 : decode cX3_cost 28 = .ok (.i2l, 1) := by decide +kernel
theorem dX3_cost_29 : decode cX3_cost 29 = .ok (.lreturn, 1) := by decide +kernel
theorem dX3_cost_30 : decode cX3_cost 30 = .ok (.lconst 0, 1) := by decide +kernel
theorem dX3_cost_31 : decode cX3_cost 31 = .ok (.lstore 4, 2) := by decide +kernel
theorem dX3_cost_33 : decode cX3_cost 33 = .ok (.iconst 0, 1) := by decide +kernel
theorem dX3_cost_34 : decode cX3_cost 34 = .ok (.istore 6, 2) := by decide +kernel
theorem dX3_cost_36 : decode cX3_cost 36 = .ok (.iload 6, 2) := by decide +kernel
theorem dX3_cost_38 : decode cX3_cost 38 = .ok (.aload_n 0, 1) := by decide +kernel
theorem dX3_cost_39 : decode cX3_cost 39 = .ok (.getfield 64, 3) := by decide +kernel
theorem dX3_cost_42 : decode cX3_cost 42 = .ok (.if_icmp .ge 30, 3) := by decide +kernel
theorem dX3_cost_45 : decode cX3_cost 45 = .ok (.lload 4, 2) := by decide +kernel
theorem dX3_cost_47 : decode cX3_cost 47 = .ok (.aload_n 0, 1) := by decide +kernel
theorem dX3_cost_48 : decode cX3_cost 48 = .ok (.getfield 39, 3) := by decide +kernel
theorem dX3_cost_51 : decode cX3_cost 51 = .ok (.iload 6, 2) := by decide +kernel
theorem dX3_cost_53 : decode cX3_cost 53 = .ok (.iaload, 1) := by decide +kernel
theorem dX3_cost_54 : decode cX3_cost 54 = .ok (.i2l, 1) := by decide +kernel
theorem dX3_cost_55 : decode cX3_cost 55 = .ok (.aload_n 0, 1) := by decide +kernel
theorem dX3_cost_56 : decode cX3_cost 56 = .ok (.getfield 42, 3) := by decide +kernel
theorem dX3_cost_59 : decode cX3_cost 59 = .ok (.iload 6, 2) := by decide +kernel
theorem dX3_cost_61 : decode cX3_cost 61 = .ok (.laload, 1) := by decide +kernel
theorem dX3_cost_62 : decode cX3_cost 62 = .ok (.lmul, 1) := by decide +kernel
theorem dX3_cost_63 : decode cX3_cost 63 = .ok (.ladd, 1) := by decide +kernel
theorem dX3_cost_64 : decode cX3_cost 64 = .ok (.lstore 4, 2) := by decide +kernel
theorem dX3_cost_66 : decode cX3_cost 66 = .ok (.iinc 6 1, 3) := by decide +kernel
theorem dX3_cost_69 : decode cX3_cost 69 = .ok (.goto (-33), 3) := by decide +kernel
theorem dX3_cost_72 : decode cX3_cost 72 = .ok (.lload 4, 2) := by decide +kernel
theorem dX3_cost_74 : decode cX3_cost 74 = .ok (.lreturn, 1) := by decide +kernel
set_option maxRecDepth 20000 in
theorem ggX3_tree_X3_isIn : GoodIn wsX3_tree wsX3_isIn := goodIn_r _ [15] (by decide +kernel) (by decide +kernel)
set_option maxRecDepth 20000 in
theorem gX3_tree_X3_isIn : GoodIn wsX3_tree (va_wsS RX3 67 yX3_isIn wsX3_isIn) := goodIn_app (goodIn_of _ (by decide +kernel)) ggX3_tree_X3_isIn
set_option maxRecDepth 20000 in
theorem ggX3_tree_X3_isRate : GoodIn wsX3_tree wsX3_isRate := goodIn_r _ [18, 19, 12, 13, 14, 15] (by decide +kernel) (by decide +kernel)
set_option maxRecDepth 20000 in
theorem gX3_tree_X3_isRate : GoodIn wsX3_tree (va_wsS RX3 132 yX3_isRate wsX3_isRate) := goodIn_app (goodIn_of _ (by decide +kernel)) ggX3_tree_X3_isRate
theorem dX3_tree_0 : decode cX3_tree 0 = .ok (.aload_n 0, 1) := by decide +kernel
theorem dX3_tree_1 : decode cX3_tree 1 = .ok (.iconst 0, 1) := by decide +kernel
theorem dX3_tree_2 : decode cX3_tree 2 = .ok (.putfield 61, 3) := by decide +kernel
theorem dX3_tree_5 : decode cX3_tree 5 = .ok (.iload_n 1, 1) := by decide +kernel
theorem dX3_tree_6 : decode cX3_tree 6 = .ok (.i2l, 1) := by decide +kernel
theorem dX3_tree_7 : decode cX3_tree 7 = .ok (.lconst 0, 1) := by decide +kernel
theorem dX3_tree_8 : decode cX3_tree 8 = .ok (.ldc2_w 176, 3) := by decide +kernel
theorem dX3_tree_11 : decode cX3_tree 11 = .ok (.invokestatic 67, 3) := by decide +kernel
theorem dX3_tree_14 : decode cX3_tree 14 = .ok (.ifCond .eq 50, 3) := by decide +kernel
theorem dX3_tree_17 : decode cX3_tree 17 = .ok (.iload_n 2, 1) := by decide +kernel
theorem dX3_tree_18 : decode cX3_tree 18 = .ok (.invokestatic 132, 3) := by decide +kernel
theorem dX3_tree_21 : decode cX3_tree 21 = .ok (.ifCond .eq 43, 3) := by decide +kernel
theorem dX3_tree_24 : decode cX3_tree 24 = .ok (.iload_n 3, 1) := by decide +kernel
theorem dX3_tree_25 : decode cX3_tree 25 = .ok (.i2l, 1) := by decide +kernel
theorem dX3_tree_26 : decode cX3_tree 26 = .ok (.lconst 0, 1) := by decide +kernel
theorem dX3_tree_27 : decode cX3_tree 27 = .ok (.ldc2_w 178, 3) := by decide +kernel
theorem dX3_tree_30 : decode cX3_tree 30 = .ok (.invokestatic 67, 3) := by decide +kernel
theorem dX3_tree_33 : decode cX3_tree 33 = .ok (.ifCond .eq 31, 3) := by decide +kernel
theorem dX3_tree_36 : decode cX3_tree 36 = .ok (.iload 4, 2) := by decide +kernel
theorem dX3_tree_38 : decode cX3_tree 38 = .ok (.i2l, 1) := by decide +kernel
theorem dX3_tree_39 : decode cX3_tree 39 = .ok (.ldc2_w 180, 3) := by decide +kernel
theorem dX3_tree_42 : decode cX3_tree 42 = .ok (.ldc2_w 182, 3) := by decide +kernel
theorem dX3_tree_45 : decode cX3_tree 45 = .ok (.invokestatic 67, 3) := by decide +kernel
theorem dX3_tree_48 : decode cX3_tree 48 = .ok (.ifCond .eq 16, 3) := by decide +kernel
theorem dX3_tree_51 : decode cX3_tree 51 = .ok (.iload 5, 2) := by decide +kernel
theorem dX3_tree_53 : decode cX3_tree 53 = .ok (.i2l, 1) := by decide +kernel
theorem dX3_tree_54 : decode cX3_tree 54 = .ok (.lconst 0, 1) := by decide +kernel
theorem dX3_tree_55 : decode cX3_tree 55 = .ok (.ldc2_w 168, 3) := by decide +kernel
theorem dX3_tree_58 : decode cX3_tree 58 = .ok (.invokestatic 67, 3) := by decide +kernel
theorem dX3_tree_61 : decode cX3_tree 61 = .ok (.ifCond .ne 5, 3) := by decide +kernel
theorem dX3_tree_64 : decode cX3_tree 64 = .ok (.iconst 0, 1) := by decide +kernel
theorem dX3_tree_65 : decode cX3_tree 65 = .ok (.ireturn, 1) := by decide +kernel
theorem dX3_tree_66 : decode cX3_tree 66 = .ok (.aload_n 0, 1) := by decide +kernel
theorem dX3_tree_67 : decode cX3_tree 67 = .ok (.getfield 141, 3) := by decide +kernel
theorem dX3_tree_70 : decode cX3_tree 70 = .ok (.iload_n 1, 1) := by decide +kernel
theorem dX3_tree_71 : decode cX3_tree 71 = .ok (.if_icmp .ne 39, 3) := by decide +kernel
theorem dX3_tree_74 : decode cX3_tree 74 = .ok (.aload_n 0, 1) := by decide +kernel
theorem dX3_tree_75 : decode cX3_tree 75 = .ok (.getfield 23, 3) := by decide +kernel
theorem dX3_tree_78 : decode cX3_tree 78 = .ok (.iload_n 2, 1) := by decide +kernel
theorem dX3_tree_79 : decode cX3_tree 79 = .ok (.if_icmp .ne 31, 3) := by decide +kernel
theorem dX3_tree_82 : decode cX3_tree 82 = .ok (.aload_n 0, 1) := by decide +kernel
theorem dX3_tree_83 : decode cX3_tree 83 = .ok (.getfield 26, 3) := by decide +kernel
theorem dX3_tree_86 : decode cX3_tree 86 = .ok (.iload_n 3, 1) := by decide +kernel
theorem dX3_tree_87 : decode cX3_tree 87 = .ok (.if_icmp .ne 23, 3) := by decide +kernel
theorem dX3_tree_90 : decode cX3_tree 90 = .ok (.aload_n 0, 1) := by decide +kernel
theorem dX3_tree_91 : decode cX3_tree 91 = .ok (.getfield 144, 3) := by decide +kernel
theorem dX3_tree_94 : decode cX3_tree 94 = .ok (.iload 4, 2) := by decide +kernel
theorem dX3_tree_96 : decode cX3_tree 96 = .ok (.if_icmp .ne 14, 3) := by decide +kernel
theorem dX3_tree_99 : decode cX3_tree 99 = .ok (.aload_n 0, 1) := by decide +kernel
theorem dX3_tree_100 : decode cX3_tree 100 = .ok (.getfield 30, 3) := by decide +kernel
theorem dX3_tree_103 : decode cX3_tree 103 = .ok (.iload 5, 2) := by decide +kernel
theorem dX3_tree_105 : decode cX3_tree 105 = .ok (.if_icmp .ne 5, 3) := by decide +kernel
theorem dX3_tree_108 : decode cX3_tree 108 = .ok (.iconst 0, 1) := by decide +kernel
theorem dX3_tree_109 : decode cX3_tree 109 = .ok (.ireturn, 1) := by decide +kernel
theorem dX3_tree_110 : decode cX3_tree 110 = .ok (.aload_n 0, 1) := by decide +kernel
theorem dX3_tree_111 : decode cX3_tree 111 = .ok (.iload_n 1, 1) := by decide +kernel
theorem dX3_tree_112 : decode cX3_tree 112 = .ok (.putfield 141, 3) := by decide +kernel
theorem dX3_tree_115 : decode cX3_tree 115 = .ok (.aload_n 0, 1) := by decide +kernel
theorem dX3_tree_116 : decode cX3_tree 116 = .ok (.iload_n 2, 1) := by decide +kernel
theorem dX3_tree_117 : decode cX3_tree 117 = .ok (.putfield 23, 3) := by decide +kernel
theorem dX3_tree_120 : decode cX3_tree 120 = .ok (.aload_n 0, 1) := by decide +kernel
theorem dX3_tree_121 : decode cX3_tree 121 = .ok (.iload_n 3, 1) := by decide +kernel
theorem dX3_tree_122 : decode cX3_tree 122 = .ok (.putfield 26, 3) := by decide +kernel
theorem dX3_tree_125 : decode cX3_tree 125 = .ok (.aload_n 0, 1) := by decide +kernel
theorem dX3_tree_126 : decode cX3_tree 126 = .ok (.iload 4, 2) := by decide +kernel
theorem dX3_tree_128 : decode cX3_tree 128 = .ok (.putfield 144, 3) := by decide +kernel
theorem dX3_tree_131 : decode cX3_tree 131 = .ok (.aload_n 0, 1) := by decide +kernel
theorem dX3_tree_132 : decode cX3_tree 132 = .ok (.iload 5, 2) := by decide +kernel
theorem dX3_tree_134 : decode cX3_tree 134 = .ok (.putfield 30, 3) := by decide +kernel
theorem dX3_tree_137 : decode cX3_tree 137 = .ok (.iconst 1, 1) := by decide +kernel
theorem dX3_tree_138 : decode cX3_tree 138 = .ok (.ireturn, 1) := by decide +kernel
set_option maxRecDepth 20000 in
theorem ggX3_isNode_X3_isIn : GoodIn wsX3_isNode wsX3_isIn := goodIn_r _ [5] (by decide +kernel) (by decide +kernel)
set_option maxRecDepth 20000 in
theorem gX3_isNode_X3_isIn : GoodIn wsX3_isNode (va_wsS RX3 67 yX3_isIn wsX3_isIn) := goodIn_app (goodIn_of _ (by decide +kernel)) ggX3_isNode_X3_isIn
theorem dX3_isNode_0 : decode cX3_isNode 0 = .ok (.iload_n 1, 1) := by decide +kernel
theorem dX3_isNode_1 : decode cX3_isNode 1 = .ok (.i2l, 1) := by decide +kernel
theorem dX3_isNode_2 : decode cX3_isNode 2 = .ok (.lconst 0, 1) := by decide +kernel
theorem dX3_isNode_3 : decode cX3_isNode 3 = .ok (.aload_n 0, 1) := by decide +kernel
theorem dX3_isNode_4 : decode cX3_isNode 4 = .ok (.getfield 141, 3) := by decide +kernel
theorem dX3_isNode_7 : decode cX3_isNode 7 = .ok (.i2l, 1) := by decide +kernel
theorem dX3_isNode_8 : decode cX3_isNode 8 = .ok (.invokestatic 67, 3) := by decide +kernel
theorem dX3_isNode_11 : decode cX3_isNode 11 = .ok (.ifCond .eq 18, 3) := by decide +kernel
theorem dX3_isNode_14 : decode cX3_isNode 14 = .ok (.iload_n 2, 1) := by decide +kernel
theorem dX3_isNode_15 : decode cX3_isNode 15 = .ok (.i2l, 1) := by decide +kernel
theorem dX3_isNode_16 : decode cX3_isNode 16 = .ok (.lconst 0, 1) := by decide +kernel
theorem dX3_isNode_17 : decode cX3_isNode 17 = .ok (.iload_n 1, 1) := by decide +kernel
theorem dX3_isNode_18 : decode cX3_isNode 18 = .ok (.i2l, 1) := by decide +kernel
theorem dX3_isNode_19 : decode cX3_isNode 19 = .ok (.invokestatic 67, 3) := by decide +kernel
theorem dX3_isNode_22 : decode cX3_isNode 22 = .ok (.ifCond .eq 7, 3) := by decide +kernel
theorem dX3_isNode_25 : decode cX3_isNode 25 = .ok (.iconst 1, 1) := by decide +kernel
theorem dX3_isNode_26 : decode cX3_isNode 26 = .ok (.goto 4, 3) := by decide +kernel
theorem dX3_isNode_29 : decode cX3_isNode 29 = .ok (.iconst 0, 1) := by decide +kernel
theorem dX3_isNode_30 : decode cX3_isNode 30 = .ok (.ireturn, 1) := by decide +kernel
theorem dX3_rate1_0 : decode cX3_rate1 0 = .ok (.aload_n 0, 1) := by decide +kernel
theorem dX3_rate1_1 : decode cX3_rate1 1 = .ok (.getfield 23, 3) := by decide +kernel
theorem dX3_rate1_4 : decode cX3_rate1 4 = .ok (.aload_n 0, 1) := by decide +kernel
theorem dX3_rate1_5 : decode cX3_rate1 5 = .ok (.getfield 26, 3) := by decide +kernel
theorem dX3_rate1_8 : decode cX3_rate1 8 = .ok (.iconst 2, 1) := by decide +kernel
theorem dX3_rate1_9 : decode cX3_rate1 9 = .ok (.iload_n 2, 1) := by decide +kernel
theorem dX3_rate1_10 : decode cX3_rate1 10 = .ok (.imul, 1) := by decide +kernel
theorem dX3_rate1_11 : decode cX3_rate1 11 = .ok (.iload_n 1, 1) := by decide +kernel
theorem dX3_rate1_12 : decode cX3_rate1 12 = .ok (.isub, 1) := by decide +kernel
theorem dX3_rate1_13 : decode cX3_rate1 13 = .ok (.imul, 1) := by decide +kernel
theorem dX3_rate1_14 : decode cX3_rate1 14 = .ok (.iadd, 1) := by decide +kernel
theorem dX3_rate1_15 : decode cX3_rate1 15 = .ok (.istore_n 3, 1) := by decide +kernel
theorem dX3_rate1_16 : decode cX3_rate1 16 = .ok (.iload_n 3, 1) := by decide +kernel
theorem dX3_rate1_17 : decode cX3_rate1 17 = .ok (.ifCond .ge 7, 3) := by decide +kernel
theorem dX3_rate1_20 : decode cX3_rate1 20 = .ok (.iconst 0, 1) := by decide +kernel
theorem dX3_rate1_21 : decode cX3_rate1 21 = .ok (.goto 17, 3) := by decide +kernel
theorem dX3_rate1_24 : decode cX3_rate1 24 = .ok (.iload_n 3, 1) := by decide +kernel
theorem dX3_rate1_25 : decode cX3_rate1 25 = .ok (.sipush 3000, 3) := by decide +kernel
theorem dX3_rate1_28 : decode cX3_rate1 28 = .ok (.if_icmp .le 9, 3) := by decide +kernel
theorem dX3_rate1_31 : decode cX3_rate1 31 = .ok (.sipush 3000, 3) := by decide +kernel
theorem dX3_rate1_34 : decode cX3_rate1 34 = .ok (.goto 4, 3) := by decide +kernel
theorem dX3_rate1_37 : decode cX3_rate1 37 = .ok (.iload_n 3, 1) := by decide +kernel
theorem dX3_rate1_38 : decode cX3_rate1 38 = .ok (.ireturn, 1) := by decide +kernel
set_option maxRecDepth 20000 in
theorem ggX3_rate_X3_isNode : GoodIn wsX3_rate wsX3_isNode := goodIn_r _ [6, 7, 8, 9, 5, 10, 17, 18, 19, 20, 21, 22, 23, 24, 25, 26, 27, 28, 29, 30, 31, 32, 33, 34, 35, 36] (by decide +kernel) (by decide +kernel)
set_option maxRecDepth 20000 in
theorem gX3_rate_X3_isNode : GoodIn wsX3_rate (wsV RX3 184 RX3 yX3_isNode wsX3_isNode) := goodIn_app (goodIn_of _ (by decide +kernel)) ggX3_rate_X3_isNode
set_option maxRecDepth 20000 in
theorem ggX3_rate_X3_rate1 : GoodIn wsX3_rate wsX3_rate1 := goodIn_r _ [14, 15, 16, 17, 18, 19, 20, 21, 22, 23, 24, 25, 26, 27, 28, 29, 30, 31, 32, 33, 34, 35, 36] (by decide +kernel) (by decide +kernel)
set_option maxRecDepth 20000 in
theorem gX3_rate_X3_rate1 : GoodIn wsX3_rate (wsV RX3 188 RX3 yX3_rate1 wsX3_rate1) := goodIn_app (goodIn_of _ (by decide +kernel)) ggX3_rate_X3_rate1
theorem dX3_rate_0 : decode cX3_rate 0 = .ok (.aload_n 0, 1) := by decide +kernel
theorem dX3_rate_1 : decode cX3_rate 1 = .ok (.iconst 0, 1) := by decide +kernel
theorem dX3_rate_2 : decode cX3_rate 2 = .ok (.putfield 61, 3) := by decide +kernel
theorem dX3_rate_5 : decode cX3_rate 5 = .ok (.aload_n 0, 1) := by decide +kernel
theorem dX3_rate_6 : decode cX3_rate 6 = .ok (.iload_n 1, 1) := by decide +kernel
theorem dX3_rate_7 : decode cX3_rate 7 = .ok (.iload_n 2, 1) := by decide +kernel
theorem dX3_rate_8 : decode cX3_rate 8 = .ok (.invokevirtual 184, 3) := by decide +kernel
theorem dX3_rate_11 : decode cX3_rate 11 = .ok (.ifCond .eq 12, 3) := by decide +kernel
theorem dX3_rate_14 : decode cX3_rate 14 = .ok (.aload_n 0, 1) := by decide +kernel
theorem dX3_rate_15 : decode cX3_rate 15 = .ok (.iload_n 1, 1) := by decide +kernel
theorem dX3_rate_16 : decode cX3_rate 16 = .ok (.iload_n 2, 1) := by decide +kernel
theorem dX3_rate_17 : decode cX3_rate 17 = .ok (.invokevirtual 188, 3) := by decide +kernel
theorem dX3_rate_20 : decode cX3_rate 20 = .ok (.goto 4, 3) := by decide +kernel
theorem dX3_rate_23 : decode cX3_rate 23 = .ok (.iconst (-1), 1) := by decide +kernel
theorem dX3_rate_24 : decode cX3_rate 24 = .ok (.ireturn, 1) := by decide +kernel
set_option maxRecDepth 20000 in
theorem ggX3_laysNow_X3_isEligible : GoodIn wsX3_laysNow wsX3_isEligible := goodIn_r _ [9, 10, 11, 12, 13, 14, 15, 16, 8, 17, 18, 19, 20, 21, 22, 23, 24, 25, 26, 27, 28, 29, 30, 31, 32, 33, 34, 35, 36, 37, 38, 39, 40, 41, 42, 43, 44, 59, 60, 61, 62, 63, 64, 65, 66, 67, 68, 69, 70, 71, 72, 73, 74, 75, 76, 77, 78] (by decide +kernel) (by decide +kernel)
set_option maxRecDepth 20000 in
theorem gX3_laysNow_X3_isEligible : GoodIn wsX3_laysNow (wsV RX3 120 RX3 yX3_isEligible wsX3_isEligible) := goodIn_app (goodIn_of _ (by decide +kernel)) ggX3_laysNow_X3_isEligible
set_option maxRecDepth 20000 in
theorem ggX3_laysNow_X3_invoice : GoodIn wsX3_laysNow wsX3_invoice := goodIn_r _ [48, 27, 22, 23, 24, 8, 25, 26, 28, 29, 30, 31, 14, 15, 16, 17, 18, 32, 33, 34, 35, 36, 37, 38, 39, 40, 41, 42, 43, 44, 59, 60, 61, 62, 63, 64, 65, 66, 67, 68, 69, 70, 71, 72, 73, 74, 75, 76, 77, 78] (by decide +kernel) (by decide +kernel)
set_option maxRecDepth 20000 in
theorem gX3_laysNow_X3_invoice : GoodIn wsX3_laysNow (wsV RX3 164 RX3 yX3_invoice wsX3_invoice) := goodIn_app (goodIn_of _ (by decide +kernel)) ggX3_laysNow_X3_invoice
set_option maxRecDepth 20000 in
theorem ggX3_laysNow_X3_rate1 : GoodIn wsX3_laysNow wsX3_rate1 := goodIn_r _ [52, 53, 54, 59, 60, 61, 62, 63, 64, 65, 66, 67, 68, 69, 70, 71, 72, 73, 74, 75, 76, 77, 78] (by decide +kernel) (by decide +kernel)
set_option maxRecDepth 20000 in
theorem gX3_laysNow_X3_rate1 : GoodIn wsX3_laysNow (wsV RX3 188 RX3 yX3_rate1 wsX3_rate1) := goodIn_app (goodIn_of _ (by decide +kernel)) ggX3_laysNow_X3_rate1
set_option maxRecDepth 20000 in
theorem ggX3_laysNow_X3_price1 : GoodIn wsX3_laysNow wsX3_price1 := goodIn_r _ [58, 14, 15, 16, 8, 17, 18, 28, 29, 30, 31, 27, 32, 33, 34, 35, 36, 37, 38, 39, 40, 41, 42, 43, 44, 59, 60, 61, 62, 63, 64, 65, 66, 67, 68, 69, 70, 71, 72, 73, 74, 75, 76, 77, 78] (by decide +kernel) (by decide +kernel)
set_option maxRecDepth 20000 in
theorem gX3_laysNow_X3_price1 : GoodIn wsX3_laysNow (wsV RX3 135 RX3 yX3_price1 wsX3_price1) := goodIn_app (goodIn_of _ (by decide +kernel)) ggX3_laysNow_X3_price1
theorem dX3_laysNow_0 : decode cX3_laysNow 0 = .ok (.bipush 21, 2) := by decide +kernel
theorem dX3_laysNow_2 : decode cX3_laysNow 2 = .ok (.iload_n 1, 1) := by decide +kernel
theorem dX3_laysNow_3 : decode cX3_laysNow 3 = .ok (.imul, 1) := by decide +kernel
theorem dX3_laysNow_4 : decode cX3_laysNow 4 = .ok (.iload_n 2, 1) := by decide +kernel
theorem dX3_laysNow_5 : decode cX3_laysNow 5 = .ok (.iadd, 1) := by decide +kernel
theorem dX3_laysNow_6 : decode cX3_laysNow 6 = .ok (.istore_n 3, 1) := by decide +kernel
theorem dX3_laysNow_7 : decode cX3_laysNow 7 = .ok (.aload_n 0, 1) := by decide +kernel
theorem dX3_laysNow_8 : decode cX3_laysNow 8 = .ok (.getfield 55, 3) := by decide +kernel
theorem dX3_laysNow_11 : decode cX3_laysNow 11 = .ok (.iload_n 3, 1) := by decide +kernel
theorem dX3_laysNow_12 : decode cX3_laysNow 12 = .ok (.iconst (-1), 1) := by decide +kernel
theorem dX3_laysNow_13 : decode cX3_laysNow 13 = .ok (.iastore, 1) := by decide +kernel
theorem dX3_laysNow_14 : decode cX3_laysNow 14 = .ok (.iconst 0, 1) := by decide +kernel
theorem dX3_laysNow_15 : decode cX3_laysNow 15 = .ok (.istore 4, 2) := by decide +kernel
theorem dX3_laysNow_17 : decode cX3_laysNow 17 = .ok (.iload 4, 2) := by decide +kernel
theorem dX3_laysNow_19 : decode cX3_laysNow 19 = .ok (.aload_n 0, 1) := by decide +kernel
theorem dX3_laysNow_20 : decode cX3_laysNow 20 = .ok (.getfield 64, 3) := by decide +kernel
theorem dX3_laysNow_23 : decode cX3_laysNow 23 = .ok (.if_icmp .ge 88, 3) := by decide +kernel
theorem dX3_laysNow_26 : decode cX3_laysNow 26 = .ok (.aload_n 0, 1) := by decide +kernel
theorem dX3_laysNow_27 : decode cX3_laysNow 27 = .ok (.iload 4, 2) := by decide +kernel
theorem dX3_laysNow_29 : decode cX3_laysNow 29 = .ok (.invokevirtual 120, 3) := by decide +kernel
theorem dX3_laysNow_32 : decode cX3_laysNow 32 = .ok (.ifCond .ne 6, 3) := by decide +kernel
theorem dX3_laysNow_35 : decode cX3_laysNow 35 = .ok (.goto 70, 3) := by decide +kernel
theorem dX3_laysNow_38 : decode cX3_laysNow 38 = .ok (.aload_n 0, 1) := by decide +kernel
theorem dX3_laysNow_39 : decode cX3_laysNow 39 = .ok (.iload 4, 2) := by decide +kernel
theorem dX3_laysNow_41 : decode cX3_laysNow 41 = .ok (.aload_n 0, 1) := by decide +kernel
theorem dX3_laysNow_42 : decode cX3_laysNow 42 = .ok (.getfield 30, 3) := by decide +kernel
theorem dX3_laysNow_45 : decode cX3_laysNow 45 = .ok (.i2l, 1) := by decide +kernel
theorem dX3_laysNow_46 : decode cX3_laysNow 46 = .ok (.invokevirtual 164, 3) := by decide +kernel
theorem dX3_laysNow_49 : decode cX3_laysNow 49 = .ok (.aload_n 0, 1) := by decide +kernel
theorem dX3_laysNow_50 : decode cX3_laysNow 50 = .ok (.iload 4, 2) := by decide +kernel
theorem dX3_laysNow_52 : decode cX3_laysNow 52 = .ok (.aload_n 0, 1) := by decide +kernel
theorem dX3_laysNow_53 : decode cX3_laysNow 53 = .ok (.iload_n 1, 1) := by decide +kernel
theorem dX3_laysNow_54 : decode cX3_laysNow 54 = .ok (.iload_n 2, 1) := by decide +kernel
theorem dX3_laysNow_55 : decode cX3_laysNow 55 = .ok (.invokevirtual 188, 3) := by decide +kernel
theorem dX3_laysNow_58 : decode cX3_laysNow 58 = .ok (.invokevirtual 135, 3) := by decide +kernel
theorem dX3_laysNow_61 : decode cX3_laysNow 61 = .ok (.lsub, 1) := by decide +kernel
theorem dX3_laysNow_62 : decode cX3_laysNow 62 = .ok (.lstore 5, 2) := by decide +kernel
theorem dX3_laysNow_64 : decode cX3_laysNow 64 = .ok (.aload_n 0, 1) := by decide +kernel
theorem dX3_laysNow_65 : decode cX3_laysNow 65 = .ok (.getfield 55, 3) := by decide +kernel
theorem dX3_laysNow_68 : decode cX3_laysNow 68 = .ok (.iload_n 3, 1) := by decide +kernel
theorem dX3_laysNow_69 : decode cX3_laysNow 69 = .ok (.iaload, 1) := by decide +kernel
theorem dX3_laysNow_70 : decode cX3_laysNow 70 = .ok (.iconst (-1), 1) := by decide +kernel
theorem dX3_laysNow_71 : decode cX3_laysNow 71 = .ok (.if_icmp .eq 18, 3) := by decide +kernel
theorem dX3_laysNow_74 : decode cX3_laysNow 74 = .ok (.lload 5, 2) := by decide +kernel
theorem dX3_laysNow_76 : decode cX3_laysNow 76 = .ok (.aload_n 0, 1) := by decide +kernel
theorem dX3_laysNow_77 : decode cX3_laysNow 77 = .ok (.getfield 49, 3) := by decide +kernel
theorem dX3_laysNow_80 : decode cX3_laysNow 80 = .ok (.iload_n 3, 1) := by decide +kernel
theorem dX3_laysNow_81 : decode cX3_laysNow 81 = .ok (.laload, 1) := by decide +kernel
theorem dX3_laysNow_82 : decode cX3_laysNow 82 = .ok (.lcmp, 1) := by decide +kernel
theorem dX3_laysNow_83 : decode cX3_laysNow 83 = .ok (.ifCond .gt 6, 3) := by decide +kernel
theorem dX3_laysNow_86 : decode cX3_laysNow 86 = .ok (.goto 19, 3) := by decide +kernel
theorem dX3_laysNow_89 : decode cX3_laysNow 89 = .ok (.aload_n 0, 1) := by decide +kernel
theorem dX3_laysNow_90 : decode cX3_laysNow 90 = .ok (.getfield 55, 3) := by decide +kernel
theorem dX3_laysNow_93 : decode cX3_laysNow 93 = .ok (.iload_n 3, 1) := by decide +kernel
theorem dX3_laysNow_94 : decode cX3_laysNow 94 = .ok (.iload 4, 2) := by decide +kernel
theorem dX3_laysNow_96 : decode cX3_laysNow 96 = .ok (.iastore, 1) := by decide +kernel
theorem dX3_laysNow_97 : decode cX3_laysNow 97 = .ok (.aload_n 0, 1) := by decide +kernel
theorem dX3_laysNow_98 : decode cX3_laysNow 98 = .ok (.getfield 49, 3) := by decide +kernel
theorem dX3_laysNow_101 : decode cX3_laysNow 101 = .ok (.iload_n 3, 1) := by decide +kernel
theorem dX3_laysNow_102 : decode cX3_laysNow 102 = .ok (.lload 5, 2) := by decide +kernel
theorem dX3_laysNow_104 : decode cX3_laysNow 104 = .ok (.lastore, 1) := by decide +kernel
theorem dX3_laysNow_105 : decode cX3_laysNow 105 = .ok (.iinc 4 1, 3) := by decide +kernel
theorem dX3_laysNow_108 : decode cX3_laysNow 108 = .ok (.goto (-91), 3) := by decide +kernel
theorem dX3_laysNow_111 : decode cX3_laysNow 111 = .ok (.return_, 1) := by decide +kernel
set_option maxRecDepth 20000 in
theorem ggX3_laysTree_X3_laysNow : GoodIn wsX3_laysTree wsX3_laysNow := goodIn_r _ [11, 12, 13, 14, 6, 15, 16, 17, 10, 18, 19, 20, 21, 22, 23, 24, 25, 26, 27, 28, 29, 30, 31, 32, 33, 34, 35, 36, 37, 38, 39, 40, 41, 42, 43, 44, 45, 46, 47, 48, 49, 50, 51, 52, 53, 54, 55, 56, 57, 58, 59, 60, 61, 62, 63, 64, 65, 66, 67, 71, 72, 73, 74, 75, 76, 77, 78, 79, 80, 81, 82, 83, 84, 85, 86, 87, 88, 89, 90] (by decide +kernel) (by decide +kernel)
set_option maxRecDepth 20000 in
theorem gX3_laysTree_X3_laysNow : GoodIn wsX3_laysTree (wsV RX3 191 RX3 yX3_laysNow wsX3_laysNow) := goodIn_app (goodIn_of _ (by decide +kernel)) ggX3_laysTree_X3_laysNow
set_option maxRecDepth 20000 in
theorem ggX3_laysTree_X3_down : GoodIn wsX3_laysTree wsX3_down := goodIn_r _ [70] (by decide +kernel) (by decide +kernel)
set_option maxRecDepth 20000 in
theorem gX3_laysTree_X3_down : GoodIn wsX3_laysTree (va_wsS RX3 195 yX3_down wsX3_down) := goodIn_app (goodIn_of _ (by decide +kernel)) ggX3_laysTree_X3_down
theorem dX3_laysTree_0 : decode cX3_laysTree 0 = .ok (.iload_n 1, 1) := by decide +kernel
theorem dX3_laysTree_1 : decode cX3_laysTree 1 = .ok (.iconst (-1), 1) := by decide +kernel
theorem dX3_laysTree_2 : decode cX3_laysTree 2 = .ok (.if_icmp .ne 10, 3) := by decide +kernel
theorem dX3_laysTree_5 : decode cX3_laysTree 5 = .ok (.aload_n 0, 1) := by decide +kernel
theorem dX3_laysTree_6 : decode cX3_laysTree 6 = .ok (.getfield 141, 3) := by decide +kernel
theorem dX3_laysTree_9 : decode cX3_laysTree 9 = .ok (.goto 4, 3) := by decide +kernel
theorem dX3_laysTree_12 : decode cX3_laysTree 12 = .ok (.iload_n 1, 1) := by decide +kernel
theorem dX3_laysTree_13 : decode cX3_laysTree 13 = .ok (.istore_n 2, 1) := by decide +kernel
theorem dX3_laysTree_14 : decode cX3_laysTree 14 = .ok (.iload_n 2, 1) := by decide +kernel
theorem dX3_laysTree_15 : decode cX3_laysTree 15 = .ok (.ifCond .lt 171, 3) := by decide +kernel
theorem dX3_laysTree_18 : decode cX3_laysTree 18 = .ok (.iconst 0, 1) := by decide +kernel
theorem dX3_laysTree_19 : decode cX3_laysTree 19 = .ok (.istore_n 3, 1) := by decide +kernel
theorem dX3_laysTree_20 : decode cX3_laysTree 20 = .ok (.iload_n 3, 1) := by decide +kernel
theorem dX3_laysTree_21 : decode cX3_laysTree 21 = .ok (.iload_n 2, 1) := by decide +kernel
theorem dX3_laysTree_22 : decode cX3_laysTree 22 = .ok (.if_icmp .gt 158, 3) := by decide +kernel
theorem dX3_laysTree_25 : decode cX3_laysTree 25 = .ok (.bipush 21, 2) := by decide +kernel
theorem dX3_laysTree_27 : decode cX3_laysTree 27 = .ok (.iload_n 2, 1) := by decide +kernel
theorem dX3_laysTree_28 : decode cX3_laysTree 28 = .ok (.imul, 1) := by decide +kernel
theorem dX3_laysTree_29 : decode cX3_laysTree 29 = .ok (.iload_n 3, 1) := by decide +kernel
theorem dX3_laysTree_30 : decode cX3_laysTree 30 = .ok (.iadd, 1) := by decide +kernel
theorem dX3_laysTree_31 : decode cX3_laysTree 31 = .ok (.istore 4, 2) := by decide +kernel
theorem dX3_laysTree_33 : decode cX3_laysTree 33 = .ok (.aload_n 0, 1) := by decide +kernel
theorem dX3_laysTree_34 : decode cX3_laysTree 34 = .ok (.iload_n 2, 1) := by decide +kernel
theorem dX3_laysTree_35 : decode cX3_laysTree 35 = .ok (.iload_n 3, 1) := by decide +kernel
theorem dX3_laysTree_36 : decode cX3_laysTree 36 = .ok (.invokevirtual 191, 3) := by decide +kernel
theorem dX3_laysTree_39 : decode cX3_laysTree 39 = .ok (.iload_n 2, 1) := by decide +kernel
theorem dX3_laysTree_40 : decode cX3_laysTree 40 = .ok (.iload_n 1, 1) := by decide +kernel
theorem dX3_laysTree_41 : decode cX3_laysTree 41 = .ok (.iconst (-1), 1) := by decide +kernel
theorem dX3_laysTree_42 : decode cX3_laysTree 42 = .ok (.if_icmp .ne 10, 3) := by decide +kernel
theorem dX3_laysTree_45 : decode cX3_laysTree 45 = .ok (.aload_n 0, 1) := by decide +kernel
theorem dX3_laysTree_46 : decode cX3_laysTree 46 = .ok (.getfield 141, 3) := by decide +kernel
theorem dX3_laysTree_49 : decode cX3_laysTree 49 = .ok (.goto 4, 3) := by decide +kernel
theorem dX3_laysTree_52 : decode cX3_laysTree 52 = .ok (.iload_n 1, 1) := by decide +kernel
theorem dX3_laysTree_53 : decode cX3_laysTree 53 = .ok (.if_icmp .ne 7, 3) := by decide +kernel
theorem dX3_laysTree_56 : decode cX3_laysTree 56 = .ok (.iconst 1, 1) := by decide +kernel
theorem dX3_laysTree_57 : decode cX3_laysTree 57 = .ok (.goto 4, 3) := by decide +kernel
theorem dX3_laysTree_60 : decode cX3_laysTree 60 = .ok (.iconst 0, 1) := by decide +kernel
theorem dX3_laysTree_61 : decode cX3_laysTree 61 = .ok (.istore 5, 2) := by decide +kernel
theorem dX3_laysTree_63 : decode cX3_laysTree 63 = .ok (.aload_n 0, 1) := by decide +kernel
theorem dX3_laysTree_64 : decode cX3_laysTree 64 = .ok (.getfield 52, 3) := by decide +kernel
theorem dX3_laysTree_67 : decode cX3_laysTree 67 = .ok (.iload 4, 2) := by decide +kernel
theorem dX3_laysTree_69 : decode cX3_laysTree 69 = .ok (.iload 5, 2) := by decide +kernel
theorem dX3_laysTree_71 : decode cX3_laysTree 71 = .ok (.ifCond .eq 7, 3) := by decide +kernel
theorem dX3_laysTree_74 : decode cX3_laysTree 74 = .ok (.lconst 0, 1) := by decide +kernel
theorem dX3_laysTree_75 : decode cX3_laysTree 75 = .ok (.goto 36, 3) := by decide +kernel
theorem dX3_laysTree_78 : decode cX3_laysTree 78 = .ok (.aload_n 0, 1) := by decide +kernel
theorem dX3_laysTree_79 : decode cX3_laysTree 79 = .ok (.getfield 46, 3) := by decide +kernel
theorem dX3_laysTree_82 : decode cX3_laysTree 82 = .ok (.iload 4, 2) := by decide +kernel
theorem dX3_laysTree_84 : decode cX3_laysTree 84 = .ok (.bipush 21, 2) := by decide +kernel
theorem dX3_laysTree_86 : decode cX3_laysTree 86 = .ok (.iadd, 1) := by decide +kernel
theorem dX3_laysTree_87 : decode cX3_laysTree 87 = .ok (.laload, 1) := by decide +kernel
theorem dX3_laysTree_88 : decode cX3_laysTree 88 = .ok (.aload_n 0, 1) := by decide +kernel
theorem dX3_laysTree_89 : decode cX3_laysTree 89 = .ok (.getfield 46, 3) := by decide +kernel
theorem dX3_laysTree_92 : decode cX3_laysTree 92 = .ok (.iload 4, 2) := by decide +kernel
theorem dX3_laysTree_94 : decode cX3_laysTree 94 = .ok (.bipush 22, 2) := by decide +kernel
theorem dX3_laysTree_96 : decode cX3_laysTree 96 = .ok (.iadd, 1) := by decide +kernel
theorem dX3_laysTree_97 : decode cX3_laysTree 97 = .ok (.laload, 1) := by decide +kernel
theorem dX3_laysTree_98 : decode cX3_laysTree 98 = .ok (.ladd, 1) := by decide +kernel
theorem dX3_laysTree_99 : decode cX3_laysTree 99 = .ok (.ldc2_w 91, 3) := by decide +kernel
theorem dX3_laysTree_102 : decode cX3_laysTree 102 = .ok (.invokestatic 195, 3) := by decide +kernel
theorem dX3_laysTree_105 : decode cX3_laysTree 105 = .ok (.aload_n 0, 1) := by decide +kernel
theorem dX3_laysTree_106 : decode cX3_laysTree 106 = .ok (.getfield 144, 3) := by decide +kernel
theorem dX3_laysTree_109 : decode cX3_laysTree 109 = .ok (.i2l, 1) := by decide +kernel
theorem dX3_laysTree_110 : decode cX3_laysTree 110 = .ok (.lsub, 1) := by decide +kernel
theorem dX3_laysTree_111 : decode cX3_laysTree 111 = .ok (.lastore, 1) := by decide +kernel
theorem dX3_laysTree_112 : decode cX3_laysTree 112 = .ok (.aload_n 0, 1) := by decide +kernel
theorem dX3_laysTree_113 : decode cX3_laysTree 113 = .ok (.getfield 46, 3) := by decide +kernel
theorem dX3_laysTree_116 : decode cX3_laysTree 116 = .ok (.iload 4, 2) := by decide +kernel
theorem dX3_laysTree_118 : decode cX3_laysTree 118 = .ok (.iload 5, 2) := by decide +kernel
theorem dX3_laysTree_120 : decode cX3_laysTree 120 = .ok (.ifCond .eq 13, 3) := by decide +kernel
theorem dX3_laysTree_123 : decode cX3_laysTree 123 = .ok (.aload_n 0, 1) := by decide +kernel
theorem dX3_laysTree_124 : decode cX3_laysTree 124 = .ok (.getfield 49, 3) := by decide +kernel
theorem dX3_laysTree_127 : decode cX3_laysTree 127 = .ok (.iload 4, 2) := by decide +kernel
theorem dX3_laysTree_129 : decode cX3_laysTree 129 = .ok (.laload, 1) := by decide +kernel
theorem dX3_laysTree_130 : decode cX3_laysTree 130 = .ok (.goto 43, 3) := by decide +kernel
theorem dX3_laysTree_133 : decode cX3_laysTree 133 = .ok (.iload_n 1, 1) := by decide +kernel
theorem dX3_laysTree_134 : decode cX3_laysTree 134 = .ok (.iconst (-1), 1) := by decide +kernel
theorem dX3_laysTree_135 : decode cX3_laysTree 135 = .ok (.if_icmp .ne 31, 3) := by decide +kernel
theorem dX3_laysTree_138 : decode cX3_laysTree 138 = .ok (.aload_n 0, 1) := by decide +kernel
theorem dX3_laysTree_139 : decode cX3_laysTree 139 = .ok (.getfield 49, 3) := by decide +kernel
theorem dX3_laysTree_142 : decode cX3_laysTree 142 = .ok (.iload 4, 2) := by decide +kernel
theorem dX3_laysTree_144 : decode cX3_laysTree 144 = .ok (.laload, 1) := by decide +kernel
theorem dX3_laysTree_145 : decode cX3_laysTree 145 = .ok (.aload_n 0, 1) := by decide +kernel
theorem dX3_laysTree_146 : decode cX3_laysTree 146 = .ok (.getfield 52, 3) := by decide +kernel
theorem dX3_laysTree_149 : decode cX3_laysTree 149 = .ok (.iload 4, 2) := by decide +kernel
theorem dX3_laysTree_151 : decode cX3_laysTree 151 = .ok (.laload, 1) := by decide +kernel
theorem dX3_laysTree_152 : decode cX3_laysTree 152 = .ok (.lcmp, 1) := by decide +kernel
theorem dX3_laysTree_153 : decode cX3_laysTree 153 = .ok (.ifCond .le 13, 3) := by decide +kernel
theorem dX3_laysTree_156 : decode cX3_laysTree 156 = .ok (.aload_n 0, 1) := by decide +kernel
theorem dX3_laysTree_157 : decode cX3_laysTree 157 = .ok (.getfield 49, 3) := by decide +kernel
theorem dX3_laysTree_160 : decode cX3_laysTree 160 = .ok (.iload 4, 2) := by decide +kernel
theorem dX3_laysTree_162 : decode cX3_laysTree 162 = .ok (.laload, 1) := by decide +kernel
theorem dX3_laysTree_163 : decode cX3_laysTree 163 = .ok (.goto 10, 3) := by decide +kernel
theorem dX3_laysTree_166 : decode cX3_laysTree 166 = .ok (.aload_n 0, 1) := by decide +kernel
theorem dX3_laysTree_167 : decode cX3_laysTree 167 = .ok (.getfield 52, 3) := by decide +kernel
theorem dX3_laysTree_170 : decode cX3_laysTree 170 = .ok (.iload 4, 2) := by decide +kernel
theorem dX3_laysTree_172 : decode cX3_laysTree 172 = .ok (.laload, 1) := by decide +kernel
theorem dX3_laysTree_173 : decode cX3_laysTree 173 = .ok (.lastore, 1) := by decide +kernel
theorem dX3_laysTree_174 : decode cX3_laysTree 174 = .ok (.iinc 3 1, 3) := by decide +kernel
theorem dX3_laysTree_177 : decode cX3_laysTree 177 = .ok (.goto (-157), 3) := by decide +kernel
theorem dX3_laysTree_180 : decode cX3_laysTree 180 = .ok (.iinc 2 (-1), 3) := by decide +kernel
theorem dX3_laysTree_183 : decode cX3_laysTree 183 = .ok (.goto (-169), 3) := by decide +kernel
theorem dX3_laysTree_186 : decode cX3_laysTree 186 = .ok (.return_, 1) := by decide +kernel
theorem dX3_delivers_0 : decode cX3_delivers 0 = .ok (.iload_n 1, 1) := by decide +kernel
theorem dX3_delivers_1 : decode cX3_delivers 1 = .ok (.aload_n 0, 1) := by decide +kernel
theorem dX3_delivers_2 : decode cX3_delivers 2 = .ok (.getfield 141, 3) := by decide +kernel
theorem dX3_delivers_5 : decode cX3_delivers 5 = .ok (.if_icmp .eq 29, 3) := by decide +kernel
theorem dX3_delivers_8 : decode cX3_delivers 8 = .ok (.aload_n 0, 1) := by decide +kernel
theorem dX3_delivers_9 : decode cX3_delivers 9 = .ok (.getfield 49, 3) := by decide +kernel
theorem dX3_delivers_12 : decode cX3_delivers 12 = .ok (.bipush 21, 2) := by decide +kernel
theorem dX3_delivers_14 : decode cX3_delivers 14 = .ok (.iload_n 1, 1) := by decide +kernel
theorem dX3_delivers_15 : decode cX3_delivers 15 = .ok (.imul, 1) := by decide +kernel
theorem dX3_delivers_16 : decode cX3_delivers 16 = .ok (.iload_n 2, 1) := by decide +kernel
theorem dX3_delivers_17 : decode cX3_delivers 17 = .ok (.iadd, 1) := by decide +kernel
theorem dX3_delivers_18 : decode cX3_delivers 18 = .ok (.laload, 1) := by decide +kernel
theorem dX3_delivers_19 : decode cX3_delivers 19 = .ok (.aload_n 0, 1) := by decide +kernel
theorem dX3_delivers_20 : decode cX3_delivers 20 = .ok (.getfield 52, 3) := by decide +kernel
theorem dX3_delivers_23 : decode cX3_delivers 23 = .ok (.bipush 21, 2) := by decide +kernel
theorem dX3_delivers_25 : decode cX3_delivers 25 = .ok (.iload_n 1, 1) := by decide +kernel
theorem dX3_delivers_26 : decode cX3_delivers 26 = .ok (.imul, 1) := by decide +kernel
theorem dX3_delivers_27 : decode cX3_delivers 27 = .ok (.iload_n 2, 1) := by decide +kernel
theorem dX3_delivers_28 : decode cX3_delivers 28 = .ok (.iadd, 1) := by decide +kernel
theorem dX3_delivers_29 : decode cX3_delivers 29 = .ok (.laload, 1) := by decide +kernel
theorem dX3_delivers_30 : decode cX3_delivers 30 = .ok (.lcmp, 1) := by decide +kernel
theorem dX3_delivers_31 : decode cX3_delivers 31 = .ok (.ifCond .lt 7, 3) := by decide +kernel
theorem dX3_delivers_34 : decode cX3_delivers 34 = .ok (.iconst 1, 1) := by decide +kernel
theorem dX3_delivers_35 : decode cX3_delivers 35 = .ok (.goto 4, 3) := by decide +kernel
theorem dX3_delivers_38 : decode cX3_delivers 38 = .ok (.iconst 0, 1) := by decide +kernel
theorem dX3_delivers_39 : decode cX3_delivers 39 = .ok (.ireturn, 1) := by decide +kernel
set_option maxRecDepth 20000 in
theorem ggX3_value_X3_isNode : GoodIn wsX3_value wsX3_isNode := goodIn_r _ [7, 8, 9, 10, 6, 11, 92, 93, 94, 95, 96, 97, 98, 99, 100, 101, 102, 103, 104, 105, 106, 107, 108, 109, 110, 111] (by decide +kernel) (by decide +kernel)
set_option maxRecDepth 20000 in
theorem gX3_value_X3_isNode : GoodIn wsX3_value (wsV RX3 184 RX3 yX3_isNode wsX3_isNode) := goodIn_app (goodIn_of _ (by decide +kernel)) ggX3_value_X3_isNode
set_option maxRecDepth 20000 in
theorem ggX3_value_X3_isAny : GoodIn wsX3_value wsX3_isAny := goodIn_r _ [15, 16, 17, 18, 6, 19, 20, 21, 22, 23, 24, 25, 26, 27, 28, 29, 30, 31, 32, 33, 9, 10, 11, 34, 35, 36, 37, 38, 39, 40, 41, 42, 43, 44, 45, 46, 47, 48, 49, 50, 51, 52, 53, 54, 55, 56, 92, 93, 94, 95, 96, 97, 98, 99, 100, 101, 102, 103, 104, 105, 106, 107, 108, 109, 110, 111] (by decide +kernel) (by decide +kernel)
set_option maxRecDepth 20000 in
theorem gX3_value_X3_isAny : GoodIn wsX3_value (wsV RX3 155 RX3 yX3_isAny wsX3_isAny) := goodIn_app (goodIn_of _ (by decide +kernel)) ggX3_value_X3_isAny
set_option maxRecDepth 20000 in
theorem ggX3_value_X3_refuse : GoodIn wsX3_value wsX3_refuse := goodIn_r _ [60, 1, 92, 93, 94, 95, 96, 97, 98, 99, 100, 101, 102, 103, 104, 105, 106, 107, 108, 109, 110, 111] (by decide +kernel) (by decide +kernel)
set_option maxRecDepth 20000 in
theorem gX3_value_X3_refuse : GoodIn wsX3_value (wsV RX3 127 RX3 yX3_refuse wsX3_refuse) := goodIn_app (goodIn_of _ (by decide +kernel)) ggX3_value_X3_refuse
set_option maxRecDepth 20000 in
theorem ggX3_value_X3_laysTree : GoodIn wsX3_value wsX3_laysTree := goodIn_r _ [64, 8, 65, 2, 66, 67, 68, 69, 70, 71, 6, 72, 73, 20, 74, 21, 22, 23, 24, 25, 26, 27, 28, 29, 30, 31, 32, 33, 9, 10, 11, 34, 35, 36, 37, 38, 39, 40, 41, 42, 43, 44, 45, 46, 47, 48, 49, 50, 51, 52, 53, 54, 55, 56, 75, 76, 77, 78, 79, 80, 81, 82, 83, 84, 85, 86, 87, 88, 89, 90, 91, 92, 93, 94, 95, 96, 97, 98, 99, 100, 101, 102, 103, 104, 105, 106, 107, 108, 109, 110, 111] (by decide +kernel) (by decide +kernel)
set_option maxRecDepth 20000 in
theorem gX3_value_X3_laysTree : GoodIn wsX3_value (wsV RX3 199 RX3 yX3_laysTree wsX3_laysTree) := goodIn_app (goodIn_of _ (by decide +kernel)) ggX3_value_X3_laysTree
theorem dX3_value_0 : decode cX3_value 0 = .ok (.aload_n 0, 1) := by decide +kernel
theorem dX3_value_1 : decode cX3_value 1 = .ok (.iconst 0, 1) := by decide +kernel
theorem dX3_value_2 : decode cX3_value 2 = .ok (.putfield 61, 3) := by decide +kernel
theorem dX3_value_5 : decode cX3_value 5 = .ok (.aload_n 0, 1) := by decide +kernel
theorem dX3_value_6 : decode cX3_value 6 = .ok (.iload_n 1, 1) := by decide +kernel
theorem dX3_value_7 : decode cX3_value 7 = .ok (.iload_n 2, 1) := by decide +kernel
theorem dX3_value_8 : decode cX3_value 8 = .ok (.invokevirtual 184, 3) := by decide +kernel
theorem dX3_value_11 : decode cX3_value 11 = .ok (.ifCond .eq 10, 3) := by decide +kernel
theorem dX3_value_14 : decode cX3_value 14 = .ok (.aload_n 0, 1) := by decide +kernel
theorem dX3_value_15 : decode cX3_value 15 = .ok (.invokevirtual 155, 3) := by decide +kernel
theorem dX3_value_18 : decode cX3_value 18 = .ok (.ifCond .ne 9, 3) := by decide +kernel
theorem dX3_value_21 : decode cX3_value 21 = .ok (.aload_n 0, 1) := by decide +kernel
theorem dX3_value_22 : decode cX3_value 22 = .ok (.invokevirtual 127, 3) := by decide +kernel
theorem dX3_value_25 : decode cX3_value 25 = .ok (.i2l, 1) := by decide +kernel
theorem dX3_value_26 : decode cX3_value 26 = .ok (.lreturn, 1) := by decide +kernel
theorem dX3_value_27 : decode cX3_value 27 = .ok (.aload_n 0, 1) := by decide +kernel
theorem dX3_value_28 : decode cX3_value 28 = .ok (.iconst (-1), 1) := by decide +kernel
theorem dX3_value_29 : decode cX3_value 29 = .ok (.invokevirtual 199, 3) := by decide +kernel
theorem dX3_value_32 : decode cX3_value 32 = .ok (.aload_n 0, 1) := by decide +kernel
theorem dX3_value_33 : decode cX3_value 33 = .ok (.getfield 46, 3) := by decide +kernel
theorem dX3_value_36 : decode cX3_value 36 = .ok (.bipush 21, 2) := by decide +kernel
theorem dX3_value_38 : decode cX3_value 38 = .ok (.iload_n 1, 1) := by decide +kernel
theorem dX3_value_39 : decode cX3_value 39 = .ok (.imul, 1) := by decide +kernel
theorem dX3_value_40 : decode cX3_value 40 = .ok (.iload_n 2, 1) := by decide +kernel
theorem dX3_value_41 : decode cX3_value 41 = .ok (.iadd, 1) := by decide +kernel
theorem dX3_value_42 : decode cX3_value 42 = .ok (.laload, 1) := by decide +kernel
theorem dX3_value_43 : decode cX3_value 43 = .ok (.lreturn, 1) := by decide +kernel
set_option maxRecDepth 20000 in
theorem ggX3_act_X3_isNode : GoodIn wsX3_act wsX3_isNode := goodIn_r _ [7, 8, 9, 10, 6, 11, 92, 93, 94, 95, 96, 97, 98, 99, 100, 101, 102, 103, 104, 105, 106, 107, 108, 109, 110, 111] (by decide +kernel) (by decide +kernel)
set_option maxRecDepth 20000 in
theorem gX3_act_X3_isNode : GoodIn wsX3_act (wsV RX3 184 RX3 yX3_isNode wsX3_isNode) := goodIn_app (goodIn_of _ (by decide +kernel)) ggX3_act_X3_isNode
set_option maxRecDepth 20000 in
theorem ggX3_act_X3_isAny : GoodIn wsX3_act wsX3_isAny := goodIn_r _ [15, 16, 17, 18, 6, 19, 20, 21, 22, 23, 24, 25, 26, 27, 28, 29, 30, 31, 32, 33, 9, 10, 11, 34, 35, 36, 37, 38, 39, 40, 41, 42, 43, 44, 45, 46, 47, 48, 49, 50, 51, 52, 53, 54, 55, 56, 92, 93, 94, 95, 96, 97, 98, 99, 100, 101, 102, 103, 104, 105, 106, 107, 108, 109, 110, 111] (by decide +kernel) (by decide +kernel)
set_option maxRecDepth 20000 in
theorem gX3_act_X3_isAny : GoodIn wsX3_act (wsV RX3 155 RX3 yX3_isAny wsX3_isAny) := goodIn_app (goodIn_of _ (by decide +kernel)) ggX3_act_X3_isAny
set_option maxRecDepth 20000 in
theorem ggX3_act_X3_laysTree : GoodIn wsX3_act wsX3_laysTree := goodIn_r _ [60, 8, 61, 62, 63, 64, 65, 66, 67, 68, 6, 69, 2, 20, 70, 21, 22, 23, 24, 25, 26, 27, 28, 29, 30, 31, 32, 33, 9, 10, 11, 34, 35, 36, 37, 38, 39, 40, 41, 42, 43, 44, 45, 46, 47, 48, 49, 50, 51, 52, 53, 54, 55, 56, 71, 72, 73, 74, 75, 76, 77, 78, 79, 80, 81, 82, 83, 84, 85, 86, 87, 92, 93, 94, 95, 96, 97, 98, 99, 100, 101, 102, 103, 104, 105, 106, 107, 108, 109, 110, 111] (by decide +kernel) (by decide +kernel)
set_option maxRecDepth 20000 in
theorem gX3_act_X3_laysTree : GoodIn wsX3_act (wsV RX3 199 RX3 yX3_laysTree wsX3_laysTree) := goodIn_app (goodIn_of _ (by decide +kernel)) ggX3_act_X3_laysTree
set_option maxRecDepth 20000 in
theorem ggX3_act_X3_delivers : GoodIn wsX3_act wsX3_delivers := goodIn_r _ [91, 8, 65, 61, 92, 93, 94, 95, 96, 97, 98, 99, 100, 101, 102, 103, 104, 105, 106, 107, 108, 109, 110, 111] (by decide +kernel) (by decide +kernel)
set_option maxRecDepth 20000 in
theorem gX3_act_X3_delivers : GoodIn wsX3_act (wsV RX3 203 RX3 yX3_delivers wsX3_delivers) := goodIn_app (goodIn_of _ (by decide +kernel)) ggX3_act_X3_delivers
theorem dX3_act_0 : decode cX3_act 0 = .ok (.aload_n 0, 1) := by decide +kernel
theorem dX3_act_1 : decode cX3_act 1 = .ok (.iconst 0, 1) := by decide +kernel
theorem dX3_act_2 : decode cX3_act 2 = .ok (.putfield 61, 3) := by decide +kernel
theorem dX3_act_5 : decode cX3_act 5 = .ok (.aload_n 0, 1) := by decide +kernel
theorem dX3_act_6 : decode cX3_act 6 = .ok (.iload_n 1, 1) := by decide +kernel
theorem dX3_act_7 : decode cX3_act 7 = .ok (.iload_n 2, 1) := by decide +kernel
theorem dX3_act_8 : decode cX3_act 8 = .ok (.invokevirtual 184, 3) := by decide +kernel
theorem dX3_act_11 : decode cX3_act 11 = .ok (.ifCond .eq 10, 3) := by decide +kernel
theorem dX3_act_14 : decode cX3_act 14 = .ok (.aload_n 0, 1) := by decide +kernel
theorem dX3_act_15 : decode cX3_act 15 = .ok (.invokevirtual 155, 3) := by decide +kernel
theorem dX3_act_18 : decode cX3_act 18 = .ok (.ifCond .ne 5, 3) := by decide +kernel
theorem dX3_act_21 : decode cX3_act 21 = .ok (.iconst (-1), 1) := by decide +kernel
theorem dX3_act_22 : decode cX3_act 22 = .ok (.ireturn, 1) := by decide +kernel
theorem dX3_act_23 : decode cX3_act 23 = .ok (.aload_n 0, 1) := by decide +kernel
theorem dX3_act_24 : decode cX3_act 24 = .ok (.iconst (-1), 1) := by decide +kernel
theorem dX3_act_25 : decode cX3_act 25 = .ok (.invokevirtual 199, 3) := by decide +kernel
theorem dX3_act_28 : decode cX3_act 28 = .ok (.aload_n 0, 1) := by decide +kernel
theorem dX3_act_29 : decode cX3_act 29 = .ok (.iload_n 1, 1) := by decide +kernel
theorem dX3_act_30 : decode cX3_act 30 = .ok (.iload_n 2, 1) := by decide +kernel
theorem dX3_act_31 : decode cX3_act 31 = .ok (.invokevirtual 203, 3) := by decide +kernel
theorem dX3_act_34 : decode cX3_act 34 = .ok (.ifCond .eq 17, 3) := by decide +kernel
theorem dX3_act_37 : decode cX3_act 37 = .ok (.aload_n 0, 1) := by decide +kernel
theorem dX3_act_38 : decode cX3_act 38 = .ok (.getfield 55, 3) := by decide +kernel
theorem dX3_act_41 : decode cX3_act 41 = .ok (.bipush 21, 2) := by decide +kernel
theorem dX3_act_43 : decode cX3_act 43 = .ok (.iload_n 1, 1) := by decide +kernel
theorem dX3_act_44 : decode cX3_act 44 = .ok (.imul, 1) := by decide +kernel
theorem dX3_act_45 : decode cX3_act 45 = .ok (.iload_n 2, 1) := by decide +kernel
theorem dX3_act_46 : decode cX3_act 46 = .ok (.iadd, 1) := by decide +kernel
theorem dX3_act_47 : decode cX3_act 47 = .ok (.iaload, 1) := by decide +kernel
theorem dX3_act_48 : decode cX3_act 48 = .ok (.goto 5, 3) := by decide +kernel
theorem dX3_act_51 : decode cX3_act 51 = .ok (.bipush (-2), 2) := by decide +kernel
theorem dX3_act_53 : decode cX3_act 53 = .ok (.ireturn, 1) := by decide +kernel
set_option maxRecDepth 20000 in
theorem ggX3_path_X3_isIn : GoodIn wsX3_path wsX3_isIn := goodIn_r _ [7] (by decide +kernel) (by decide +kernel)
set_option maxRecDepth 20000 in
theorem gX3_path_X3_isIn : GoodIn wsX3_path (va_wsS RX3 67 yX3_isIn wsX3_isIn) := goodIn_app (goodIn_of _ (by decide +kernel)) ggX3_path_X3_isIn
set_option maxRecDepth 20000 in
theorem ggX3_path_X3_isAny : GoodIn wsX3_path wsX3_isAny := goodIn_r _ [11, 12, 13, 14, 6, 15, 16, 17, 18, 19, 20, 21, 22, 23, 24, 25, 26, 27, 28, 29, 4, 5, 7, 30, 31, 32, 33, 34, 35, 36, 37, 38, 39, 40, 41, 42, 43, 44, 45, 46, 47, 48, 49, 50, 51, 52, 88, 89, 90, 91, 92, 93, 94, 95, 96, 97, 98, 99, 100, 101, 102, 103, 104, 105, 106, 107] (by decide +kernel) (by decide +kernel)
set_option maxRecDepth 20000 in
theorem gX3_path_X3_isAny : GoodIn wsX3_path (wsV RX3 155 RX3 yX3_isAny wsX3_isAny) := goodIn_app (goodIn_of _ (by decide +kernel)) ggX3_path_X3_isAny
set_option maxRecDepth 20000 in
theorem ggX3_path_X3_laysTree : GoodIn wsX3_path wsX3_laysTree := goodIn_r _ [56, 2, 57, 58, 59, 60, 61, 62, 63, 64, 6, 65, 3, 16, 66, 17, 18, 19, 20, 21, 22, 23, 24, 25, 26, 27, 28, 29, 4, 5, 7, 30, 31, 32, 33, 34, 35, 36, 37, 38, 39, 40, 41, 42, 43, 44, 45, 46, 47, 48, 49, 50, 51, 52, 67, 68, 69, 70, 71, 72, 73, 74, 75, 76, 77, 78, 79, 80, 81, 82, 83, 88, 89, 90, 91, 92, 93, 94, 95, 96, 97, 98, 99, 100, 101, 102, 103, 104, 105, 106, 107] (by decide +kernel) (by decide +kernel)
set_option maxRecDepth 20000 in
theorem gX3_path_X3_laysTree : GoodIn wsX3_path (wsV RX3 199 RX3 yX3_laysTree wsX3_laysTree) := goodIn_app (goodIn_of _ (by decide +kernel)) ggX3_path_X3_laysTree
set_option maxRecDepth 20000 in
theorem ggX3_path_X3_delivers : GoodIn wsX3_path wsX3_delivers := goodIn_r _ [87, 2, 61, 57, 88, 89, 90, 91, 92, 93, 94, 95, 96, 97, 98, 99, 100, 101, 102, 103, 104, 105, 106, 107] (by decide +kernel) (by decide +kernel)
set_option maxRecDepth 20000 in
theorem gX3_path_X3_delivers : GoodIn wsX3_path (wsV RX3 203 RX3 yX3_delivers wsX3_delivers) := goodIn_app (goodIn_of _ (by decide +kernel)) ggX3_path_X3_delivers
theorem dX3_path_0 : decode cX3_path 0 = .ok (.aload_n 0, 1) := by decide +kernel
theorem dX3_path_1 : decode cX3_path 1 = .ok (.iconst 0, 1) := by decide +kernel
theorem dX3_path_2 : decode cX3_path 2 = .ok (.putfield 61, 3) := by decide +kernel
theorem dX3_path_5 : decode cX3_path 5 = .ok (.iload_n 1, 1) := by decide +kernel
theorem dX3_path_6 : decode cX3_path 6 = .ok (.i2l, 1) := by decide +kernel
theorem dX3_path_7 : decode cX3_path 7 = .ok (.lconst 0, 1) := by decide +kernel
theorem dX3_path_8 : decode cX3_path 8 = .ok (.iconst 1, 1) := by decide +kernel
theorem dX3_path_9 : decode cX3_path 9 = .ok (.aload_n 0, 1) := by decide +kernel
theorem dX3_path_10 : decode cX3_path 10 = .ok (.getfield 141, 3) := by decide +kernel
theorem dX3_path_13 : decode cX3_path 13 = .ok (.ishl, 1) := by decide +kernel
theorem dX3_path_14 : decode cX3_path 14 = .ok (.iconst 1, 1) := by decide +kernel
theorem dX3_path_15 : decode cX3_path 15 = .ok (.isub, 1) := by decide +kernel
theorem dX3_path_16 : decode cX3_path 16 = .ok (.i2l, 1) := by decide +kernel
theorem dX3_path_17 : decode cX3_path 17 = .ok (.invokestatic 67, 3) := by decide +kernel
theorem dX3_path_20 : decode cX3_path 20 = .ok (.ifCond .eq 10, 3) := by decide +kernel
theorem dX3_path_23 : decode cX3_path 23 = .ok (.aload_n 0, 1) := by decide +kernel
theorem dX3_path_24 : decode cX3_path 24 = .ok (.invokevirtual 155, 3) := by decide +kernel
theorem dX3_path_27 : decode cX3_path 27 = .ok (.ifCond .ne 5, 3) := by decide +kernel
theorem dX3_path_30 : decode cX3_path 30 = .ok (.iconst (-1), 1) := by decide +kernel
theorem dX3_path_31 : decode cX3_path 31 = .ok (.ireturn, 1) := by decide +kernel
theorem dX3_path_32 : decode cX3_path 32 = .ok (.aload_n 0, 1) := by decide +kernel
theorem dX3_path_33 : decode cX3_path 33 = .ok (.iconst (-1), 1) := by decide +kernel
theorem dX3_path_34 : decode cX3_path 34 = .ok (.invokevirtual 199, 3) := by decide +kernel
theorem dX3_path_37 : decode cX3_path 37 = .ok (.iconst 0, 1) := by decide +kernel
theorem dX3_path_38 : decode cX3_path 38 = .ok (.istore_n 3, 1) := by decide +kernel
theorem dX3_path_39 : decode cX3_path 39 = .ok (.iconst 0, 1) := by decide +kernel
theorem dX3_path_40 : decode cX3_path 40 = .ok (.istore 4, 2) := by decide +kernel
theorem dX3_path_42 : decode cX3_path 42 = .ok (.aload_n 0, 1) := by decide +kernel
theorem dX3_path_43 : decode cX3_path 43 = .ok (.iload_n 3, 1) := by decide +kernel
theorem dX3_path_44 : decode cX3_path 44 = .ok (.iload 4, 2) := by decide +kernel
theorem dX3_path_46 : decode cX3_path 46 = .ok (.invokevirtual 203, 3) := by decide +kernel
theorem dX3_path_49 : decode cX3_path 49 = .ok (.ifCond .ne 19, 3) := by decide +kernel
theorem dX3_path_52 : decode cX3_path 52 = .ok (.iload 4, 2) := by decide +kernel
theorem dX3_path_54 : decode cX3_path 54 = .ok (.iload_n 1, 1) := by decide +kernel
theorem dX3_path_55 : decode cX3_path 55 = .ok (.iload_n 3, 1) := by decide +kernel
theorem dX3_path_56 : decode cX3_path 56 = .ok (.ishr, 1) := by decide +kernel
theorem dX3_path_57 : decode cX3_path 57 = .ok (.iconst 1, 1) := by decide +kernel
theorem dX3_path_58 : decode cX3_path 58 = .ok (.iand, 1) := by decide +kernel
theorem dX3_path_59 : decode cX3_path 59 = .ok (.iadd, 1) := by decide +kernel
theorem dX3_path_60 : decode cX3_path 60 = .ok (.istore 4, 2) := by decide +kernel
theorem dX3_path_62 : decode cX3_path 62 = .ok (.iinc 3 1, 3) := by decide +kernel
theorem dX3_path_65 : decode cX3_path 65 = .ok (.goto (-23), 3) := by decide +kernel
theorem dX3_path_68 : decode cX3_path 68 = .ok (.iload_n 2, 1) := by decide +kernel
theorem dX3_path_69 : decode cX3_path 69 = .ok (.ifCond .eq 18, 3) := by decide +kernel
theorem dX3_path_72 : decode cX3_path 72 = .ok (.aload_n 0, 1) := by decide +kernel
theorem dX3_path_73 : decode cX3_path 73 = .ok (.getfield 55, 3) := by decide +kernel
theorem dX3_path_76 : decode cX3_path 76 = .ok (.bipush 21, 2) := by decide +kernel
theorem dX3_path_78 : decode cX3_path 78 = .ok (.iload_n 3, 1) := by decide +kernel
theorem dX3_path_79 : decode cX3_path 79 = .ok (.imul, 1) := by decide +kernel
theorem dX3_path_80 : decode cX3_path 80 = .ok (.iload 4, 2) := by decide +kernel
theorem dX3_path_82 : decode cX3_path 82 = .ok (.iadd, 1) := by decide +kernel
theorem dX3_path_83 : decode cX3_path 83 = .ok (.iaload, 1) := by decide +kernel
theorem dX3_path_84 : decode cX3_path 84 = .ok (.goto 4, 3) := by decide +kernel
theorem dX3_path_87 : decode cX3_path 87 = .ok (.iload_n 3, 1) := by decide +kernel
theorem dX3_path_88 : decode cX3_path 88 = .ok (.ireturn, 1) := by decide +kernel
set_option maxRecDepth 20000 in
theorem ggX3_often_X3_isIn : GoodIn wsX3_often wsX3_isIn := goodIn_r _ [7] (by decide +kernel) (by decide +kernel)
set_option maxRecDepth 20000 in
theorem gX3_often_X3_isIn : GoodIn wsX3_often (va_wsS RX3 67 yX3_isIn wsX3_isIn) := goodIn_app (goodIn_of _ (by decide +kernel)) ggX3_often_X3_isIn
set_option maxRecDepth 20000 in
theorem ggX3_often_X3_isAny : GoodIn wsX3_often wsX3_isAny := goodIn_r _ [11, 12, 13, 14, 6, 15, 16, 17, 18, 19, 20, 21, 22, 23, 24, 25, 26, 27, 28, 29, 4, 5, 7, 30, 31, 32, 33, 34, 35, 36, 37, 38, 39, 40, 41, 42, 43, 44, 45, 46, 47, 48, 49, 50, 51, 52, 89, 90, 91, 92, 93, 94, 95, 96, 97, 98, 99, 100, 101, 102, 103, 104, 105, 106, 107, 108] (by decide +kernel) (by decide +kernel)
set_option maxRecDepth 20000 in
theorem gX3_often_X3_isAny : GoodIn wsX3_often (wsV RX3 155 RX3 yX3_isAny wsX3_isAny) := goodIn_app (goodIn_of _ (by decide +kernel)) ggX3_often_X3_isAny
set_option maxRecDepth 20000 in
theorem ggX3_often_X3_laysTree : GoodIn wsX3_often wsX3_laysTree := goodIn_r _ [56, 2, 57, 58, 59, 60, 61, 62, 63, 64, 6, 65, 66, 16, 67, 17, 18, 19, 20, 21, 22, 23, 24, 25, 26, 27, 28, 29, 4, 5, 7, 30, 31, 32, 33, 34, 35, 36, 37, 38, 39, 40, 41, 42, 43, 44, 45, 46, 47, 48, 49, 50, 51, 52, 68, 69, 70, 71, 72, 73, 74, 75, 76, 77, 78, 79, 80, 81, 82, 83, 84, 89, 90, 91, 92, 93, 94, 95, 96, 97, 98, 99, 100, 101, 102, 103, 104, 105, 106, 107, 108] (by decide +kernel) (by decide +kernel)
set_option maxRecDepth 20000 in
theorem gX3_often_X3_laysTree : GoodIn wsX3_often (wsV RX3 199 RX3 yX3_laysTree wsX3_laysTree) := goodIn_app (goodIn_of _ (by decide +kernel)) ggX3_often_X3_laysTree
set_option maxRecDepth 20000 in
theorem ggX3_often_X3_delivers : GoodIn wsX3_often wsX3_delivers := goodIn_r _ [88, 2, 61, 57, 89, 90, 91, 92, 93, 94, 95, 96, 97, 98, 99, 100, 101, 102, 103, 104, 105, 106, 107, 108] (by decide +kernel) (by decide +kernel)
set_option maxRecDepth 20000 in
theorem gX3_often_X3_delivers : GoodIn wsX3_often (wsV RX3 203 RX3 yX3_delivers wsX3_delivers) := goodIn_app (goodIn_of _ (by decide +kernel)) ggX3_often_X3_delivers
theorem dX3_often_0 : decode cX3_often 0 = .ok (.aload_n 0, 1) := by decide +kernel
theorem dX3_often_1 : decode cX3_often 1 = .ok (.iconst 0, 1) := by decide +kernel
theorem dX3_often_2 : decode cX3_often 2 = .ok (.putfield 61, 3) := by decide +kernel
theorem dX3_often_5 : decode cX3_often 5 = .ok (.iload_n 1, 1) := by decide +kernel
theorem dX3_often_6 : decode cX3_often 6 = .ok (.i2l, 1) := by decide +kernel
theorem dX3_often_7 : decode cX3_often 7 = .ok (.lconst 0, 1) := by decide +kernel
theorem dX3_often_8 : decode cX3_often 8 = .ok (.aload_n 0, 1) := by decide +kernel
theorem dX3_often_9 : decode cX3_often 9 = .ok (.getfield 141, 3) := by decide +kernel
theorem dX3_often_12 : decode cX3_often 12 = .ok (.i2l, 1) := by decide +kernel
theorem dX3_often_13 : decode cX3_often 13 = .ok (.invokestatic 67, 3) := by decide +kernel
theorem dX3_often_16 : decode cX3_often 16 = .ok (.ifCond .eq 10, 3) := by decide +kernel
theorem dX3_often_19 : decode cX3_often 19 = .ok (.aload_n 0, 1) := by decide +kernel
theorem dX3_often_20 : decode cX3_often 20 = .ok (.invokevirtual 155, 3) := by decide +kernel
theorem dX3_often_23 : decode cX3_often 23 = .ok (.ifCond .ne 5, 3) := by decide +kernel
theorem dX3_often_26 : decode cX3_often 26 = .ok (.iconst (-1), 1) := by decide +kernel
theorem dX3_often_27 : decode cX3_often 27 = .ok (.ireturn, 1) := by decide +kernel
theorem dX3_often_28 : decode cX3_often 28 = .ok (.aload_n 0, 1) := by decide +kernel
theorem dX3_often_29 : decode cX3_often 29 = .ok (.iconst (-1), 1) := by decide +kernel
theorem dX3_often_30 : decode cX3_often 30 = .ok (.invokevirtual 199, 3) := by decide +kernel
theorem dX3_often_33 : decode cX3_often 33 = .ok (.iconst 0, 1) := by decide +kernel
theorem dX3_often_34 : decode cX3_often 34 = .ok (.istore_n 2, 1) := by decide +kernel
theorem dX3_often_35 : decode cX3_often 35 = .ok (.iconst 0, 1) := by decide +kernel
theorem dX3_often_36 : decode cX3_often 36 = .ok (.istore_n 3, 1) := by decide +kernel
theorem dX3_often_37 : decode cX3_often 37 = .ok (.iload_n 3, 1) := by decide +kernel
theorem dX3_often_38 : decode cX3_often 38 = .ok (.iload_n 1, 1) := by decide +kernel
theorem dX3_often_39 : decode cX3_often 39 = .ok (.if_icmp .gt 163, 3) := by decide +kernel
theorem dX3_often_42 : decode cX3_often 42 = .ok (.iconst 0, 1) := by decide +kernel
theorem dX3_often_43 : decode cX3_often 43 = .ok (.istore 4, 2) := by decide +kernel
theorem dX3_often_45 : decode cX3_often 45 = .ok (.iload 4, 2) := by decide +kernel
theorem dX3_often_47 : decode cX3_often 47 = .ok (.iload_n 3, 1) := by decide +kernel
theorem dX3_often_48 : decode cX3_often 48 = .ok (.if_icmp .gt 148, 3) := by decide +kernel
theorem dX3_often_51 : decode cX3_often 51 = .ok (.bipush 21, 2) := by decide +kernel
theorem dX3_often_53 : decode cX3_often 53 = .ok (.iload_n 3, 1) := by decide +kernel
theorem dX3_often_54 : decode cX3_often 54 = .ok (.imul, 1) := by decide +kernel
theorem dX3_often_55 : decode cX3_often 55 = .ok (.iload 4, 2) := by decide +kernel
theorem dX3_often_57 : decode cX3_often 57 = .ok (.iadd, 1) := by decide +kernel
theorem dX3_often_58 : decode cX3_often 58 = .ok (.istore 5, 2) := by decide +kernel
theorem dX3_often_60 : decode cX3_often 60 = .ok (.aload_n 0, 1) := by decide +kernel
theorem dX3_often_61 : decode cX3_often 61 = .ok (.getfield 58, 3) := by decide +kernel
theorem dX3_often_64 : decode cX3_often 64 = .ok (.iload 5, 2) := by decide +kernel
theorem dX3_often_66 : decode cX3_often 66 = .ok (.iload_n 3, 1) := by decide +kernel
theorem dX3_often_67 : decode cX3_often 67 = .ok (.ifCond .ne 7, 3) := by decide +kernel
theorem dX3_often_70 : decode cX3_often 70 = .ok (.iconst 1, 1) := by decide +kernel
theorem dX3_often_71 : decode cX3_often 71 = .ok (.goto 4, 3) := by decide +kernel
theorem dX3_often_74 : decode cX3_often 74 = .ok (.iconst 0, 1) := by decide +kernel
theorem dX3_often_75 : decode cX3_often 75 = .ok (.iastore, 1) := by decide +kernel
theorem dX3_often_76 : decode cX3_often 76 = .ok (.iload_n 3, 1) := by decide +kernel
theorem dX3_often_77 : decode cX3_often 77 = .ok (.ifCond .le 42, 3) := by decide +kernel
theorem dX3_often_80 : decode cX3_often 80 = .ok (.iload 4, 2) := by decide +kernel
theorem dX3_often_82 : decode cX3_often 82 = .ok (.ifCond .le 37, 3) := by decide +kernel
theorem dX3_often_85 : decode cX3_often 85 = .ok (.aload_n 0, 1) := by decide +kernel
theorem dX3_often_86 : decode cX3_often 86 = .ok (.iload_n 3, 1) := by decide +kernel
theorem dX3_often_87 : decode cX3_often 87 = .ok (.iconst 1, 1) := by decide +kernel
theorem dX3_often_88 : decode cX3_often 88 = .ok (.isub, 1) := by decide +kernel
theorem dX3_often_89 : decode cX3_often 89 = .ok (.iload 4, 2) := by decide +kernel
theorem dX3_often_91 : decode cX3_often 91 = .ok (.iconst 1, 1) := by decide +kernel

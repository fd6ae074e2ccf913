theorem dX0_init_0 : decode cX0_init 0 = .ok (.aload_n 0, 1) := by decide +kernel
theorem dX0_init_1 : decode cX0_init 1 = .ok (.invokespecial 3, 3) := by decide +kernel
theorem dX0_init_4 : decode cX0_init 4 = .ok (.aload_n 0, 1) := by decide +kernel
theorem dX0_init_5 : decode cX0_init 5 = .ok (.bipush 41, 2) := by decide +kernel
theorem dX0_init_7 : decode cX0_init 7 = .ok (.newarray .int, 2) := by decide +kernel
theorem dX0_init_9 : decode cX0_init 9 = .ok (.putfield 9, 3) := by decide +kernel
theorem dX0_init_12 : decode cX0_init 12 = .ok (.return_, 1) := by decide +kernel
set_option maxRecDepth 20000 in
theorem ggX0_become_X0_layFlows : GoodIn wsX0_become wsX0_layFlows := goodIn_r _ [13, 14, 3, 15, 16, 17, 18, 19, 12, 20, 1, 4, 21, 22, 23, 24, 2, 29, 30, 31, 32, 33, 34, 35, 36, 37, 38] (by decide +kernel) (by decide +kernel)
set_option maxRecDepth 20000 in
theorem gX0_become_X0_layFlows : GoodIn wsX0_become (wsV RX0 37 RX0 yX0_layFlows wsX0_layFlows) := goodIn_app (goodIn_of _ (by decide +kernel)) ggX0_become_X0_layFlows
set_option maxRecDepth 20000 in
theorem ggX0_become_J7_fill_53178 : GoodIn wsX0_become wsJ7_fill_53178 := goodIn_r _ [28] (by decide +kernel) (by decide +kernel)
set_option maxRecDepth 20000 in
theorem gX0_become_J7_fill_53178 : GoodIn wsX0_become (va_wsS RX0 43 yJ7_fill_53178 wsJ7_fill_53178) := goodIn_app (goodIn_of _ (by decide +kernel)) ggX0_become_J7_fill_53178
theorem dX0_become_0 : decode cX0_become 0 = .ok (.aload_n 0, 1) := by decide +kernel
theorem dX0_become_1 : decode cX0_become 1 = .ok (.iload_n 1, 1) := by decide +kernel
theorem dX0_become_2 : decode cX0_become 2 = .ok (.putfield 15, 3) := by decide +kernel
theorem dX0_become_5 : decode cX0_become 5 = .ok (.aload_n 0, 1) := by decide +kernel
theorem dX0_become_6 : decode cX0_become 6 = .ok (.iload_n 2, 1) := by decide +kernel
theorem dX0_become_7 : decode cX0_become 7 = .ok (.putfield 19, 3) := by decide +kernel
theorem dX0_become_10 : decode cX0_become 10 = .ok (.aload_n 0, 1) := by decide +kernel
theorem dX0_become_11 : decode cX0_become 11 = .ok (.iload_n 3, 1) := by decide +kernel
theorem dX0_become_12 : decode cX0_become 12 = .ok (.putfield 22, 3) := by decide +kernel
theorem dX0_become_15 : decode cX0_become 15 = .ok (.aload_n 0, 1) := by decide +kernel
theorem dX0_become_16 : decode cX0_become 16 = .ok (.iload 4, 2) := by decide +kernel
theorem dX0_become_18 : decode cX0_become 18 = .ok (.putfield 25, 3) := by decide +kernel
theorem dX0_become_21 : decode cX0_become 21 = .ok (.aload_n 0, 1) := by decide +kernel
theorem dX0_become_22 : decode cX0_become 22 = .ok (.iload 5, 2) := by decide +kernel
theorem dX0_become_24 : decode cX0_become 24 = .ok (.putfield 28, 3) := by decide +kernel
theorem dX0_become_27 : decode cX0_become 27 = .ok (.aload_n 0, 1) := by decide +kernel
theorem dX0_become_28 : decode cX0_become 28 = .ok (.iconst 0, 1) := by decide +kernel
theorem dX0_become_29 : decode cX0_become 29 = .ok (.putfield 31, 3) := by decide +kernel
theorem dX0_become_32 : decode cX0_become 32 = .ok (.aload_n 0, 1) := by decide +kernel
theorem dX0_become_33 : decode cX0_become 33 = .ok (.iconst 0, 1) := by decide +kernel
theorem dX0_become_34 : decode cX0_become 34 = .ok (.putfield 34, 3) := by decide +kernel
theorem dX0_become_37 : decode cX0_become 37 = .ok (.aload_n 0, 1) := by decide +kernel
theorem dX0_become_38 : decode cX0_become 38 = .ok (.invokevirtual 37, 3) := by decide +kernel
theorem dX0_become_41 : decode cX0_become 41 = .ok (.aload_n 0, 1) := by decide +kernel
theorem dX0_become_42 : decode cX0_become 42 = .ok (.getfield 40, 3) := by decide +kernel
theorem dX0_become_45 : decode cX0_become 45 = .ok (.ifnull 11, 3) := by decide +kernel
theorem dX0_become_48 : decode cX0_become 48 = .ok (.aload_n 0, 1) := by decide +kernel
theorem dX0_become_49 : decode cX0_become 49 = .ok (.getfield 40, 3) := by decide +kernel
theorem dX0_become_52 : decode cX0_become 52 = .ok (.iconst 0, 1) := by decide +kernel
theorem dX0_become_53 : decode cX0_become 53 = .ok (.invokestatic 43, 3) := by decide +kernel
theorem dX0_become_56 : decode cX0_become 56 = .ok (.return_, 1) := by decide +kernel
set_option maxRecDepth 20000 in
theorem ggX0_layFlows_X0_paidBack : GoodIn wsX0_layFlows wsX0_paidBack := goodIn_r _ [9, 2, 10, 11, 1, 17, 18, 19, 20, 21, 22, 23, 24, 25, 26] (by decide +kernel) (by decide +kernel)
set_option maxRecDepth 20000 in
theorem gX0_layFlows_X0_paidBack : GoodIn wsX0_layFlows (wsV RX0 50 RX0 yX0_paidBack wsX0_paidBack) := goodIn_app (goodIn_of _ (by decide +kernel)) ggX0_layFlows_X0_paidBack
set_option maxRecDepth 20000 in
theorem ggX0_layFlows_X0_couponIn : GoodIn wsX0_layFlows wsX0_couponIn := goodIn_r _ [15, 10, 16, 11, 17, 18, 19, 20, 21, 22, 23, 24, 25, 26] (by decide +kernel) (by decide +kernel)
set_option maxRecDepth 20000 in
theorem gX0_layFlows_X0_couponIn : GoodIn wsX0_layFlows (wsV RX0 54 RX0 yX0_couponIn wsX0_couponIn) := goodIn_app (goodIn_of _ (by decide +kernel)) ggX0_layFlows_X0_couponIn
theorem dX0_layFlows_0 : decode cX0_layFlows 0 = .ok (.ldc 49, 2) := by decide +kernel
theorem dX0_layFlows_2 : decode cX0_layFlows 2 = .ok (.istore_n 1, 1) := by decide +kernel
theorem dX0_layFlows_3 : decode cX0_layFlows 3 = .ok (.iconst 1, 1) := by decide +kernel
theorem dX0_layFlows_4 : decode cX0_layFlows 4 = .ok (.istore_n 2, 1) := by decide +kernel
theorem dX0_layFlows_5 : decode cX0_layFlows 5 = .ok (.iload_n 2, 1) := by decide +kernel
theorem dX0_layFlows_6 : decode cX0_layFlows 6 = .ok (.aload_n 0, 1) := by decide +kernel
theorem dX0_layFlows_7 : decode cX0_layFlows 7 = .ok (.getfield 22, 3) := by decide +kernel
theorem dX0_layFlows_10 : decode cX0_layFlows 10 = .ok (.if_icmp .gt 51, 3) := by decide +kernel
theorem dX0_layFlows_13 : decode cX0_layFlows 13 = .ok (.iload_n 2, 1) := by decide +kernel
theorem dX0_layFlows_14 : decode cX0_layFlows 14 = .ok (.aload_n 0, 1) := by decide +kernel
theorem dX0_layFlows_15 : decode cX0_layFlows 15 = .ok (.getfield 9, 3) := by decide +kernel
theorem dX0_layFlows_18 : decode cX0_layFlows 18 = .ok (.arraylength, 1) := by decide +kernel
theorem dX0_layFlows_19 : decode cX0_layFlows 19 = .ok (.if_icmp .ge 42, 3) := by decide +kernel
theorem dX0_layFlows_22 : decode cX0_layFlows 22 = .ok (.aload_n 0, 1) := by decide +kernel
theorem dX0_layFlows_23 : decode cX0_layFlows 23 = .ok (.iload_n 2, 1) := by decide +kernel
theorem dX0_layFlows_24 : decode cX0_layFlows 24 = .ok (.iload_n 1, 1) := by decide +kernel
theorem dX0_layFlows_25 : decode cX0_layFlows 25 = .ok (.invokevirtual 50, 3) := by decide +kernel
theorem dX0_layFlows_28 : decode cX0_layFlows 28 = .ok (.istore_n 3, 1) := by decide +kernel
theorem dX0_layFlows_29 : decode cX0_layFlows 29 = .ok (.aload_n 0, 1) := by decide +kernel
theorem dX0_layFlows_30 : decode cX0_layFlows 30 = .ok (.getfield 9, 3) := by decide +kernel
theorem dX0_layFlows_33 : decode cX0_layFlows 33 = .ok (.iload_n 2, 1) := by decide +kernel
theorem dX0_layFlows_34 : decode cX0_layFlows 34 = .ok (.aload_n 0, 1) := by decide +kernel
theorem dX0_layFlows_35 : decode cX0_layFlows 35 = .ok (.iload_n 2, 1) := by decide +kernel
theorem dX0_layFlows_36 : decode cX0_layFlows 36 = .ok (.invokevirtual 54, 3) := by decide +kernel
theorem dX0_layFlows_39 : decode cX0_layFlows 39 = .ok (.i2l, 1) := by decide +kernel
theorem dX0_layFlows_40 : decode cX0_layFlows 40 = .ok (.iload_n 1, 1) := by decide +kernel
theorem dX0_layFlows_41 : decode cX0_layFlows 41 = .ok (.i2l, 1) := by decide +kernel
theorem dX0_layFlows_42 : decode cX0_layFlows 42 = .ok (.lmul, 1) := by decide +kernel
theorem dX0_layFlows_43 : decode cX0_layFlows 43 = .ok (.ldc2_w 58, 3) := by decide +kernel
theorem dX0_layFlows_46 : decode cX0_layFlows 46 = .ok (.ldiv, 1) := by decide +kernel
theorem dX0_layFlows_47 : decode cX0_layFlows 47 = .ok (.l2i, 1) := by decide +kernel
theorem dX0_layFlows_48 : decode cX0_layFlows 48 = .ok (.iload_n 3, 1) := by decide +kernel
theorem dX0_layFlows_49 : decode cX0_layFlows 49 = .ok (.iadd, 1) := by decide +kernel
theorem dX0_layFlows_50 : decode cX0_layFlows 50 = .ok (.iastore, 1) := by decide +kernel
theorem dX0_layFlows_51 : decode cX0_layFlows 51 = .ok (.iload_n 1, 1) := by decide +kernel
theorem dX0_layFlows_52 : decode cX0_layFlows 52 = .ok (.iload_n 3, 1) := by decide +kernel
theorem dX0_layFlows_53 : decode cX0_layFlows 53 = .ok (.isub, 1) := by decide +kernel
theorem dX0_layFlows_54 : decode cX0_layFlows 54 = .ok (.istore_n 1, 1) := by decide +kernel
theorem dX0_layFlows_55 : decode cX0_layFlows 55 = .ok (.iinc 2 1, 3) := by decide +kernel
theorem dX0_layFlows_58 : decode cX0_layFlows 58 = .ok (.goto (-53), 3) := by decide +kernel
theorem dX0_layFlows_61 : decode cX0_layFlows 61 = .ok (.return_, 1) := by decide +kernel
theorem dX0_couponIn_0 : decode cX0_couponIn 0 = .ok (.aload_n 0, 1) := by decide +kernel
theorem dX0_couponIn_1 : decode cX0_couponIn 1 = .ok (.getfield 15, 3) := by decide +kernel
theorem dX0_couponIn_4 : decode cX0_couponIn 4 = .ok (.iconst 1, 1) := by decide +kernel
theorem dX0_couponIn_5 : decode cX0_couponIn 5 = .ok (.if_icmp .ne 19, 3) := by decide +kernel
theorem dX0_couponIn_8 : decode cX0_couponIn 8 = .ok (.aload_n 0, 1) := by decide +kernel
theorem dX0_couponIn_9 : decode cX0_couponIn 9 = .ok (.getfield 19, 3) := by decide +kernel
theorem dX0_couponIn_12 : decode cX0_couponIn 12 = .ok (.aload_n 0, 1) := by decide +kernel
theorem dX0_couponIn_13 : decode cX0_couponIn 13 = .ok (.getfield 25, 3) := by decide +kernel
theorem dX0_couponIn_16 : decode cX0_couponIn 16 = .ok (.iload_n 1, 1) := by decide +kernel
theorem dX0_couponIn_17 : decode cX0_couponIn 17 = .ok (.iconst 1, 1) := by decide +kernel
theorem dX0_couponIn_18 : decode cX0_couponIn 18 = .ok (.isub, 1) := by decide +kernel
theorem dX0_couponIn_19 : decode cX0_couponIn 19 = .ok (.imul, 1) := by decide +kernel
theorem dX0_couponIn_20 : decode cX0_couponIn 20 = .ok (.iadd, 1) := by decide +kernel
theorem dX0_couponIn_21 : decode cX0_couponIn 21 = .ok (.goto 7, 3) := by decide +kernel
theorem dX0_couponIn_24 : decode cX0_couponIn 24 = .ok (.aload_n 0, 1) := by decide +kernel
theorem dX0_couponIn_25 : decode cX0_couponIn 25 = .ok (.getfield 19, 3) := by decide +kernel
theorem dX0_couponIn_28 : decode cX0_couponIn 28 = .ok (.ireturn, 1) := by decide +kernel
theorem dX0_paidBack_0 : decode cX0_paidBack 0 = .ok (.iload_n 1, 1) := by decide +kernel
theorem dX0_paidBack_1 : decode cX0_paidBack 1 = .ok (.aload_n 0, 1) := by decide +kernel
theorem dX0_paidBack_2 : decode cX0_paidBack 2 = .ok (.getfield 22, 3) := by decide +kernel
theorem dX0_paidBack_5 : decode cX0_paidBack 5 = .ok (.if_icmp .ne 5, 3) := by decide +kernel
theorem dX0_paidBack_8 : decode cX0_paidBack 8 = .ok (.iload_n 2, 1) := by decide +kernel
theorem dX0_paidBack_9 : decode cX0_paidBack 9 = .ok (.ireturn, 1) := by decide +kernel
theorem dX0_paidBack_10 : decode cX0_paidBack 10 = .ok (.aload_n 0, 1) := by decide +kernel
theorem dX0_paidBack_11 : decode cX0_paidBack 11 = .ok (.getfield 15, 3) := by decide +kernel
theorem dX0_paidBack_14 : decode cX0_paidBack 14 = .ok (.iconst 2, 1) := by decide +kernel
theorem dX0_paidBack_15 : decode cX0_paidBack 15 = .ok (.if_icmp .ne 31, 3) := by decide +kernel
theorem dX0_paidBack_18 : decode cX0_paidBack 18 = .ok (.aload_n 0, 1) := by decide +kernel
theorem dX0_paidBack_19 : decode cX0_paidBack 19 = .ok (.getfield 25, 3) := by decide +kernel
theorem dX0_paidBack_22 : decode cX0_paidBack 22 = .ok (.ifCond .le 24, 3) := by decide +kernel
theorem dX0_paidBack_25 : decode cX0_paidBack 25 = .ok (.iload_n 1, 1) := by decide +kernel
theorem dX0_paidBack_26 : decode cX0_paidBack 26 = .ok (.aload_n 0, 1) := by decide +kernel
theorem dX0_paidBack_27 : decode cX0_paidBack 27 = .ok (.getfield 22, 3) := by decide +kernel
theorem dX0_paidBack_30 : decode cX0_paidBack 30 = .ok (.aload_n 0, 1) := by decide +kernel
theorem dX0_paidBack_31 : decode cX0_paidBack 31 = .ok (.getfield 25, 3) := by decide +kernel
theorem dX0_paidBack_34 : decode cX0_paidBack 34 = .ok (.isub, 1) := by decide +kernel
theorem dX0_paidBack_35 : decode cX0_paidBack 35 = .ok (.if_icmp .le 11, 3) := by decide +kernel
theorem dX0_paidBack_38 : decode cX0_paidBack 38 = .ok (.ldc 49, 2) := by decide +kernel
theorem dX0_paidBack_40 : decode cX0_paidBack 40 = .ok (.aload_n 0, 1) := by decide +kernel
theorem dX0_paidBack_41 : decode cX0_paidBack 41 = .ok (.getfield 25, 3) := by decide +kernel
theorem dX0_paidBack_44 : decode cX0_paidBack 44 = .ok (.idiv, 1) := by decide +kernel
theorem dX0_paidBack_45 : decode cX0_paidBack 45 = .ok (.ireturn, 1) := by decide +kernel
theorem dX0_paidBack_46 : decode cX0_paidBack 46 = .ok (.iconst 0, 1) := by decide +kernel
theorem dX0_paidBack_47 : decode cX0_paidBack 47 = .ok (.ireturn, 1) := by decide +kernel
set_option maxRecDepth 20000 in
theorem ggX0_changeSpread_X2_within : GoodIn wsX0_changeSpread wsX2_within := goodIn_r _ [4] (by decide +kernel) (by decide +kernel)
set_option maxRecDepth 20000 in
theorem gX0_changeSpread_X2_within_n60 : GoodIn wsX0_changeSpread (wsX2_within) := ggX0_changeSpread_X2_within
theorem dX0_changeSpread_0 : decode cX0_changeSpread 0 = .ok (.iload_n 1, 1) := by decide +kernel
theorem dX0_changeSpread_1 : decode cX0_changeSpread 1 = .ok (.aload_n 0, 1) := by decide +kernel
theorem dX0_changeSpread_2 : decode cX0_changeSpread 2 = .ok (.getfield 28, 3) := by decide +kernel
theorem dX0_changeSpread_5 : decode cX0_changeSpread 5 = .ok (.if_icmp .eq 16, 3) := by decide +kernel
theorem dX0_changeSpread_8 : decode cX0_changeSpread 8 = .ok (.iload_n 1, 1) := by decide +kernel
theorem dX0_changeSpread_9 : decode cX0_changeSpread 9 = .ok (.sipush (-200), 3) := by decide +kernel
theorem dX0_changeSpread_12 : decode cX0_changeSpread 12 = .ok (.sipush 200, 3) := by decide +kernel
theorem dX0_changeSpread_15 : decode cX0_changeSpread 15 = .ok (.invokestatic 60, 3) := by decide +kernel
theorem dX0_changeSpread_18 : decode cX0_changeSpread 18 = .ok (.ifCond .ne 5, 3) := by decide +kernel
theorem dX0_changeSpread_21 : decode cX0_changeSpread 21 = .ok (.iconst 0, 1) := by decide +kernel
theorem dX0_changeSpread_22 : decode cX0_changeSpread 22 = .ok (.ireturn, 1) := by decide +kernel
theorem dX0_changeSpread_23 : decode cX0_changeSpread 23 = .ok (.aload_n 0, 1) := by decide +kernel
theorem dX0_changeSpread_24 : decode cX0_changeSpread 24 = .ok (.iload_n 1, 1) := by decide +kernel
theorem dX0_changeSpread_25 : decode cX0_changeSpread 25 = .ok (.putfield 28, 3) := by decide +kernel
theorem dX0_changeSpread_28 : decode cX0_changeSpread 28 = .ok (.iconst 1, 1) := by decide +kernel
theorem dX0_changeSpread_29 : decode cX0_changeSpread 29 = .ok (.ireturn, 1) := by decide +kernel
set_option maxRecDepth 20000 in
theorem ggX0_changeStock_X2_within : GoodIn wsX0_changeStock wsX2_within := goodIn_r _ [4] (by decide +kernel) (by decide +kernel)
set_option maxRecDepth 20000 in
theorem gX0_changeStock_X2_within_n60 : GoodIn wsX0_changeStock (wsX2_within) := ggX0_changeStock_X2_within
theorem dX0_changeStock_0 : decode cX0_changeStock 0 = .ok (.iload_n 1, 1) := by decide +kernel
theorem dX0_changeStock_1 : decode cX0_changeStock 1 = .ok (.aload_n 0, 1) := by decide +kernel
theorem dX0_changeStock_2 : decode cX0_changeStock 2 = .ok (.getfield 31, 3) := by decide +kernel
theorem dX0_changeStock_5 : decode cX0_changeStock 5 = .ok (.if_icmp .eq 13, 3) := by decide +kernel
theorem dX0_changeStock_8 : decode cX0_changeStock 8 = .ok (.iload_n 1, 1) := by decide +kernel
theorem dX0_changeStock_9 : decode cX0_changeStock 9 = .ok (.iconst 0, 1) := by decide +kernel
theorem dX0_changeStock_10 : decode cX0_changeStock 10 = .ok (.bipush 99, 2) := by decide +kernel
theorem dX0_changeStock_12 : decode cX0_changeStock 12 = .ok (.invokestatic 60, 3) := by decide +kernel
theorem dX0_changeStock_15 : decode cX0_changeStock 15 = .ok (.ifCond .ne 5, 3) := by decide +kernel
theorem dX0_changeStock_18 : decode cX0_changeStock 18 = .ok (.iconst 0, 1) := by decide +kernel
theorem dX0_changeStock_19 : decode cX0_changeStock 19 = .ok (.ireturn, 1) := by decide +kernel
theorem dX0_changeStock_20 : decode cX0_changeStock 20 = .ok (.aload_n 0, 1) := by decide +kernel
theorem dX0_changeStock_21 : decode cX0_changeStock 21 = .ok (.iload_n 1, 1) := by decide +kernel
theorem dX0_changeStock_22 : decode cX0_changeStock 22 = .ok (.putfield 31, 3) := by decide +kernel
theorem dX0_changeStock_25 : decode cX0_changeStock 25 = .ok (.iconst 1, 1) := by decide +kernel
theorem dX0_changeStock_26 : decode cX0_changeStock 26 = .ok (.ireturn, 1) := by decide +kernel
set_option maxRecDepth 20000 in
theorem ggX0_changeBarred_X2_within : GoodIn wsX0_changeBarred wsX2_within := goodIn_r _ [4] (by decide +kernel) (by decide +kernel)
set_option maxRecDepth 20000 in
theorem gX0_changeBarred_X2_within_n60 : GoodIn wsX0_changeBarred (wsX2_within) := ggX0_changeBarred_X2_within
theorem dX0_changeBarred_0 : decode cX0_changeBarred 0 = .ok (.iload_n 1, 1) := by decide +kernel
theorem dX0_changeBarred_1 : decode cX0_changeBarred 1 = .ok (.aload_n 0, 1) := by decide +kernel
theorem dX0_changeBarred_2 : decode cX0_changeBarred 2 = .ok (.getfield 34, 3) := by decide +kernel
theorem dX0_changeBarred_5 : decode cX0_changeBarred 5 = .ok (.if_icmp .eq 12, 3) := by decide +kernel
theorem dX0_changeBarred_8 : decode cX0_changeBarred 8 = .ok (.iload_n 1, 1) := by decide +kernel
theorem dX0_changeBarred_9 : decode cX0_changeBarred 9 = .ok (.iconst 0, 1) := by decide +kernel
theorem dX0_changeBarred_10 : decode cX0_changeBarred 10 = .ok (.iconst 1, 1) := by decide +kernel
theorem dX0_changeBarred_11 : decode cX0_changeBarred 11 = .ok (.invokestatic 60, 3) := by decide +kernel
theorem dX0_changeBarred_14 : decode cX0_changeBarred 14 = .ok (.ifCond .ne 5, 3) := by decide +kernel
theorem dX0_changeBarred_17 : decode cX0_changeBarred 17 = .ok (.iconst 0, 1) := by decide +kernel
theorem dX0_changeBarred_18 : decode cX0_changeBarred 18 = .ok (.ireturn, 1) := by decide +kernel
theorem dX0_changeBarred_19 : decode cX0_changeBarred 19 = .ok (.aload_n 0, 1) := by decide +kernel
theorem dX0_changeBarred_20 : decode cX0_changeBarred 20 = .ok (.iload_n 1, 1) := by decide +kernel
theorem dX0_changeBarred_21 : decode cX0_changeBarred 21 = .ok (.putfield 34, 3) := by decide +kernel
theorem dX0_changeBarred_24 : decode cX0_changeBarred 24 = .ok (.iconst 1, 1) := by decide +kernel
theorem dX0_changeBarred_25 : decode cX0_changeBarred 25 = .ok (.ireturn, 1) := by decide +kernel
set_option maxRecDepth 20000 in
theorem ggX0_factorBy_X0_worthAt : GoodIn wsX0_factorBy wsX0_worthAt := goodIn_r _ [6, 7, 8, 9, 10, 11, 12, 13, 5, 14, 15, 16, 17, 18, 19, 20, 21, 22, 23, 24, 25, 26, 27] (by decide +kernel) (by decide +kernel)
set_option maxRecDepth 20000 in
theorem gX0_factorBy_X0_worthAt : GoodIn wsX0_factorBy (wsV RX0 64 RX0 yX0_worthAt wsX0_worthAt) := goodIn_app (goodIn_of _ (by decide +kernel)) ggX0_factorBy_X0_worthAt
theorem dX0_factorBy_0 : decode cX0_factorBy 0 = .ok (.aload_n 0, 1) := by decide +kernel
theorem dX0_factorBy_1 : decode cX0_factorBy 1 = .ok (.aload_n 0, 1) := by decide +kernel
theorem dX0_factorBy_2 : decode cX0_factorBy 2 = .ok (.iload_n 1, 1) := by decide +kernel
theorem dX0_factorBy_3 : decode cX0_factorBy 3 = .ok (.invokevirtual 64, 3) := by decide +kernel
theorem dX0_factorBy_6 : decode cX0_factorBy 6 = .ok (.sipush 10000, 3) := by decide +kernel
theorem dX0_factorBy_9 : decode cX0_factorBy 9 = .ok (.idiv, 1) := by decide +kernel
theorem dX0_factorBy_10 : decode cX0_factorBy 10 = .ok (.putfield 67, 3) := by decide +kernel
theorem dX0_factorBy_13 : decode cX0_factorBy 13 = .ok (.return_, 1) := by decide +kernel
set_option maxRecDepth 20000 in
theorem ggX0_priceAt_X0_worthAt : GoodIn wsX0_priceAt wsX0_worthAt := goodIn_r _ [10, 11, 12, 13, 14, 15, 16, 17, 9, 18, 19, 20, 21, 22, 23, 24, 25, 26, 27, 28, 29, 30, 31] (by decide +kernel) (by decide +kernel)
set_option maxRecDepth 20000 in
theorem gX0_priceAt_X0_worthAt : GoodIn wsX0_priceAt (wsV RX0 64 RX0 yX0_worthAt wsX0_worthAt) := goodIn_app (goodIn_of _ (by decide +kernel)) ggX0_priceAt_X0_worthAt
theorem dX0_priceAt_0 : decode cX0_priceAt 0 = .ok (.aload_n 0, 1) := by decide +kernel
theorem dX0_priceAt_1 : decode cX0_priceAt 1 = .ok (.iconst 0, 1) := by decide +kernel
theorem dX0_priceAt_2 : decode cX0_priceAt 2 = .ok (.iload_n 1, 1) := by decide +kernel
theorem dX0_priceAt_3 : decode cX0_priceAt 3 = .ok (.aload_n 0, 1) := by decide +kernel
theorem dX0_priceAt_4 : decode cX0_priceAt 4 = .ok (.getfield 28, 3) := by decide +kernel
theorem dX0_priceAt_7 : decode cX0_priceAt 7 = .ok (.iadd, 1) := by decide +kernel
theorem dX0_priceAt_8 : decode cX0_priceAt 8 = .ok (.invokestatic 70, 3) := by decide +kernel
theorem dX0_priceAt_11 : decode cX0_priceAt 11 = .ok (.invokevirtual 64, 3) := by decide +kernel
theorem dX0_priceAt_14 : decode cX0_priceAt 14 = .ok (.ireturn, 1) := by decide +kernel
theorem dX0_invoiceBy_0 : decode cX0_invoiceBy 0 = .ok (.lload_n 1, 1) := by decide +kernel
theorem dX0_invoiceBy_1 : decode cX0_invoiceBy 1 = .ok (.aload_n 0, 1) := by decide +kernel
theorem dX0_invoiceBy_2 : decode cX0_invoiceBy 2 = .ok (.getfield 67, 3) := by decide +kernel
theorem dX0_invoiceBy_5 : decode cX0_invoiceBy 5 = .ok (.i2l, 1) := by decide +kernel
theorem dX0_invoiceBy_6 : decode cX0_invoiceBy 6 = .ok (.lmul, 1) := by decide +kernel
theorem dX0_invoiceBy_7 : decode cX0_invoiceBy 7 = .ok (.ldc2_w 58, 3) := by decide +kernel
theorem dX0_invoiceBy_10 : decode cX0_invoiceBy 10 = .ok (.ldiv, 1) := by decide +kernel
theorem dX0_invoiceBy_11 : decode cX0_invoiceBy 11 = .ok (.lreturn, 1) := by decide +kernel
theorem dX0_keepWorths_0 : decode cX0_keepWorths 0 = .ok (.aload_n 0, 1) := by decide +kernel
theorem dX0_keepWorths_1 : decode cX0_keepWorths 1 = .ok (.getfield 40, 3) := by decide +kernel
theorem dX0_keepWorths_4 : decode cX0_keepWorths 4 = .ok (.ifnonnull 12, 3) := by decide +kernel
theorem dX0_keepWorths_7 : decode cX0_keepWorths 7 = .ok (.aload_n 0, 1) := by decide +kernel
theorem dX0_keepWorths_8 : decode cX0_keepWorths 8 = .ok (.sipush 3201, 3) := by decide +kernel
theorem dX0_keepWorths_11 : decode cX0_keepWorths 11 = .ok (.newarray .int, 2) := by decide +kernel
theorem dX0_keepWorths_13 : decode cX0_keepWorths 13 = .ok (.putfield 40, 3) := by decide +kernel
theorem dX0_keepWorths_16 : decode cX0_keepWorths 16 = .ok (.return_, 1) := by decide +kernel
set_option maxRecDepth 20000 in
theorem ggX0_worthAt_X2_within : GoodIn wsX0_worthAt wsX2_within := goodIn_r _ [4] (by decide +kernel) (by decide +kernel)
set_option maxRecDepth 20000 in
theorem gX0_worthAt_X2_within_n60 : GoodIn wsX0_worthAt (wsX2_within) := ggX0_worthAt_X2_within
set_option maxRecDepth 20000 in
theorem ggX0_worthAt_X0_discounted : GoodIn wsX0_worthAt wsX0_discounted := goodIn_r _ [9, 10, 11, 12, 13, 14, 15, 16, 17, 18, 19, 20, 21, 22] (by decide +kernel) (by decide +kernel)
set_option maxRecDepth 20000 in
theorem gX0_worthAt_X0_discounted : GoodIn wsX0_worthAt (wsV RX0 75 RX0 yX0_discounted wsX0_discounted) := goodIn_app (goodIn_of _ (by decide +kernel)) ggX0_worthAt_X0_discounted
theorem dX0_worthAt_0 : decode cX0_worthAt 0 = .ok (.aload_n 0, 1) := by decide +kernel
theorem dX0_worthAt_1 : decode cX0_worthAt 1 = .ok (.getfield 40, 3) := by decide +kernel
theorem dX0_worthAt_4 : decode cX0_worthAt 4 = .ok (.ifnull 14, 3) := by decide +kernel
theorem dX0_worthAt_7 : decode cX0_worthAt 7 = .ok (.iload_n 1, 1) := by decide +kernel
theorem dX0_worthAt_8 : decode cX0_worthAt 8 = .ok (.iconst 0, 1) := by decide +kernel
theorem dX0_worthAt_9 : decode cX0_worthAt 9 = .ok (.sipush 3200, 3) := by decide +kernel
theorem dX0_worthAt_12 : decode cX0_worthAt 12 = .ok (.invokestatic 60, 3) := by decide +kernel
theorem dX0_worthAt_15 : decode cX0_worthAt 15 = .ok (.ifCond .ne 9, 3) := by decide +kernel
theorem dX0_worthAt_18 : decode cX0_worthAt 18 = .ok (.aload_n 0, 1) := by decide +kernel
theorem dX0_worthAt_19 : decode cX0_worthAt 19 = .ok (.iload_n 1, 1) := by decide +kernel
theorem dX0_worthAt_20 : decode cX0_worthAt 20 = .ok (.invokevirtual 75, 3) := by decide +kernel
theorem dX0_worthAt_23 : decode cX0_worthAt 23 = .ok (.ireturn, 1) := by decide +kernel
theorem dX0_worthAt_24 : decode cX0_worthAt 24 = .ok (.aload_n 0, 1) := by decide +kernel
theorem dX0_worthAt_25 : decode cX0_worthAt 25 = .ok (.getfield 40, 3) := by decide +kernel
theorem dX0_worthAt_28 : decode cX0_worthAt 28 = .ok (.iload_n 1, 1) := by decide +kernel
theorem dX0_worthAt_29 : decode cX0_worthAt 29 = .ok (.iaload, 1) := by decide +kernel
theorem dX0_worthAt_30 : decode cX0_worthAt 30 = .ok (.ifCond .ne 14, 3) := by decide +kernel
theorem dX0_worthAt_33 : decode cX0_worthAt 33 = .ok (.aload_n 0, 1) := by decide +kernel
theorem dX0_worthAt_34 : decode cX0_worthAt 34 = .ok (.getfield 40, 3) := by decide +kernel
theorem dX0_worthAt_37 : decode cX0_worthAt 37 = .ok (.iload_n 1, 1) := by decide +kernel
theorem dX0_worthAt_38 : decode cX0_worthAt 38 = .ok (.aload_n 0, 1) := by decide +kernel
theorem dX0_worthAt_39 : decode cX0_worthAt 39 = .ok (.iload_n 1, 1) := by decide +kernel
theorem dX0_worthAt_40 : decode cX0_worthAt 40 = .ok (.invokevirtual 75, 3) := by decide +kernel
theorem dX0_worthAt_43 : decode cX0_worthAt 43 = .ok (.iastore, 1) := by decide +kernel
theorem dX0_worthAt_44 : decode cX0_worthAt 44 = .ok (.aload_n 0, 1) := by decide +kernel
theorem dX0_worthAt_45 : decode cX0_worthAt 45 = .ok (.getfield 40, 3) := by decide +kernel
theorem dX0_worthAt_48 : decode cX0_worthAt 48 = .ok (.iload_n 1, 1) := by decide +kernel
theorem dX0_worthAt_49 : decode cX0_worthAt 49 = .ok (.iaload, 1) := by decide +kernel
theorem dX0_worthAt_50 : decode cX0_worthAt 50 = .ok (.ireturn, 1) := by decide +kernel
theorem dX0_discounted_0 : decode cX0_discounted 0 = .ok (.sipush 10000, 3) := by decide +kernel
theorem dX0_discounted_3 : decode cX0_discounted 3 = .ok (.iload_n 1, 1) := by decide +kernel
theorem dX0_discounted_4 : decode cX0_discounted 4 = .ok (.iadd, 1) := by decide +kernel
theorem dX0_discounted_5 : decode cX0_discounted 5 = .ok (.istore_n 2, 1) := by decide +kernel
theorem dX0_discounted_6 : decode cX0_discounted 6 = .ok (.iload_n 2, 1) := by decide +kernel
theorem dX0_discounted_7 : decode cX0_discounted 7 = .ok (.ifCond .gt 5, 3) := by decide +kernel
theorem dX0_discounted_10 : decode cX0_discounted 10 = .ok (.iconst 0, 1) := by decide +kernel
theorem dX0_discounted_11 : decode cX0_discounted 11 = .ok (.ireturn, 1) := by decide +kernel
theorem dX0_discounted_12 : decode cX0_discounted 12 = .ok (.lconst 0, 1) := by decide +kernel
theorem dX0_discounted_13 : decode cX0_discounted 13 = .ok (.lstore_n 3, 1) := by decide +kernel
theorem dX0_discounted_14 : decode cX0_discounted 14 = .ok (.aload_n 0, 1) := by decide +kernel
theorem dX0_discounted_15 : decode cX0_discounted 15 = .ok (.getfield 22, 3) := by decide +kernel
theorem dX0_discounted_18 : decode cX0_discounted 18 = .ok (.istore 5, 2) := by decide +kernel
theorem dX0_discounted_20 : decode cX0_discounted 20 = .ok (.iload 5, 2) := by decide +kernel
theorem dX0_discounted_22 : decode cX0_discounted 22 = .ok (.iconst 1, 1) := by decide +kernel
theorem dX0_discounted_23 : decode cX0_discounted 23 = .ok (.if_icmp .lt 27, 3) := by decide +kernel
theorem dX0_discounted_26 : decode cX0_discounted 26 = .ok (.lload_n 3, 1) := by decide +kernel
theorem dX0_discounted_27 : decode cX0_discounted 27 = .ok (.aload_n 0, 1) := by decide +kernel
theorem dX0_discounted_28 : decode cX0_discounted 28 = .ok (.getfield 9, 3) := by decide +kernel
theorem dX0_discounted_31 : decode cX0_discounted 31 = .ok (.iload 5, 2) := by decide +kernel
theorem dX0_discounted_33 : decode cX0_discounted 33 = .ok (.iaload, 1) := by decide +kernel
theorem dX0_discounted_34 : decode cX0_discounted 34 = .ok (.i2l, 1) := by decide +kernel
theorem dX0_discounted_35 : decode cX0_discounted 35 = .ok (.ladd, 1) := by decide +kernel
theorem dX0_discounted_36 : decode cX0_discounted 36 = .ok (.ldc2_w 58, 3) := by decide +kernel
theorem dX0_discounted_39 : decode cX0_discounted 39 = .ok (.lmul, 1) := by decide +kernel
theorem dX0_discounted_40 : decode cX0_discounted 40 = .ok (.iload_n 2, 1) := by decide +kernel
theorem dX0_discounted_41 : decode cX0_discounted 41 = .ok (.i2l, 1) := by decide +kernel
theorem dX0_discounted_42 : decode cX0_discounted 42 = .ok (.ldiv, 1) := by decide +kernel
theorem dX0_discounted_43 : decode cX0_discounted 43 = .ok (.lstore_n 3, 1) := by decide +kernel
theorem dX0_discounted_44 : decode cX0_discounted 44 = .ok (.iinc 5 (-1), 3) := by decide +kernel
theorem dX0_discounted_47 : decode cX0_discounted 47 = .ok (.goto (-27), 3) := by decide +kernel
theorem dX0_discounted_50 : decode cX0_discounted 50 = .ok (.lload_n 3, 1) := by decide +kernel
theorem dX0_discounted_51 : decode cX0_discounted 51 = .ok (.l2i, 1) := by decide +kernel
theorem dX0_discounted_52 : decode cX0_discounted 52 = .ok (.ireturn, 1) := by decide +kernel
theorem dX1_init_0 : decode cX1_init 0 = .ok (.aload_n 0, 1) := by decide +kernel
theorem dX1_init_1 : decode cX1_init 1 = .ok (.invokespecial 3, 3) := by decide +kernel
theorem dX1_init_4 : decode cX1_init 4 = .ok (.aload_n 0, 1) := by decide +kernel
theorem dX1_init_5 : decode cX1_init 5 = .ok (.sipush 600, 3) := by decide +kernel
theorem dX1_init_8 : decode cX1_init 8 = .ok (.putfield 9, 3) := by decide +kernel
theorem dX1_init_11 : decode cX1_init 11 = .ok (.aload_n 0, 1) := by decide +kernel
theorem dX1_init_12 : decode cX1_init 12 = .ok (.bipush 10, 2) := by decide +kernel
theorem dX1_init_14 : decode cX1_init 14 = .ok (.putfield 15, 3) := by decide +kernel
theorem dX1_init_17 : decode cX1_init 17 = .ok (.aload_n 0, 1) := by decide +kernel
theorem dX1_init_18 : decode cX1_init 18 = .ok (.ldc 18, 2) := by decide +kernel
theorem dX1_init_20 : decode cX1_init 20 = .ok (.putfield 19, 3) := by decide +kernel
theorem dX1_init_23 : decode cX1_init 23 = .ok (.aload_n 0, 1) := by decide +kernel
theorem dX1_init_24 : decode cX1_init 24 = .ok (.bipush 21, 2) := by decide +kernel
theorem dX1_init_26 : decode cX1_init 26 = .ok (.bipush 21, 2) := by decide +kernel
theorem dX1_init_28 : decode cX1_init 28 = .ok (.multianewarray 22 2, 4) := by decide +kernel
theorem dX1_init_32 : decode cX1_init 32 = .ok (.putfield 24, 3) := by decide +kernel
theorem dX1_init_35 : decode cX1_init 35 = .ok (.aload_n 0, 1) := by decide +kernel
theorem dX1_init_36 : decode cX1_init 36 = .ok (.bipush 21, 2) := by decide +kernel
theorem dX1_init_38 : decode cX1_init 38 = .ok (.bipush 21, 2) := by decide +kernel
theorem dX1_init_40 : decode cX1_init 40 = .ok (.multianewarray 27 2, 4) := by decide +kernel
theorem dX1_init_44 : decode cX1_init 44 = .ok (.putfield 29, 3) := by decide +kernel
theorem dX1_init_47 : decode cX1_init 47 = .ok (.aload_n 0, 1) := by decide +kernel
theorem dX1_init_48 : decode cX1_init 48 = .ok (.bipush 41, 2) := by decide +kernel
theorem dX1_init_50 : decode cX1_init 50 = .ok (.bipush 8, 2) := by decide +kernel
theorem dX1_init_52 : decode cX1_init 52 = .ok (.multianewarray 27 2, 4) := by decide +kernel
theorem dX1_init_56 : decode cX1_init 56 = .ok (.putfield 32, 3) := by decide +kernel
theorem dX1_init_59 : decode cX1_init 59 = .ok (.aload_n 0, 1) := by decide +kernel
theorem dX1_init_60 : decode cX1_init 60 = .ok (.bipush 41, 2) := by decide +kernel
theorem dX1_init_62 : decode cX1_init 62 = .ok (.newarray .long, 2) := by decide +kernel
theorem dX1_init_64 : decode cX1_init 64 = .ok (.putfield 35, 3) := by decide +kernel
theorem dX1_init_67 : decode cX1_init 67 = .ok (.aload_n 0, 1) := by decide +kernel
theorem dX1_init_68 : decode cX1_init 68 = .ok (.bipush 41, 2) := by decide +kernel
theorem dX1_init_70 : decode cX1_init 70 = .ok (.newarray .int, 2) := by decide +kernel
theorem dX1_init_72 : decode cX1_init 72 = .ok (.putfield 39, 3) := by decide +kernel
theorem dX1_init_75 : decode cX1_init 75 = .ok (.aload_n 0, 1) := by decide +kernel
theorem dX1_init_76 : decode cX1_init 76 = .ok (.bipush 8, 2) := by decide +kernel
theorem dX1_init_78 : decode cX1_init 78 = .ok (.newarray .long, 2) := by decide +kernel
theorem dX1_init_80 : decode cX1_init 80 = .ok (.putfield 43, 3) := by decide +kernel
theorem dX1_init_83 : decode cX1_init 83 = .ok (.aload_n 0, 1) := by decide +kernel
theorem dX1_init_84 : decode cX1_init 84 = .ok (.bipush 22, 2) := by decide +kernel
theorem dX1_init_86 : decode cX1_init 86 = .ok (.newarray .int, 2) := by decide +kernel
theorem dX1_init_88 : decode cX1_init 88 = .ok (.putfield 46, 3) := by decide +kernel
theorem dX1_init_91 : decode cX1_init 91 = .ok (.return_, 1) := by decide +kernel
theorem dX1_change_0 : decode cX1_change 0 = .ok (.iload_n 1, 1) := by decide +kernel
theorem dX1_change_1 : decode cX1_change 1 = .ok (.aload_n 0, 1) := by decide +kernel
theorem dX1_change_2 : decode cX1_change 2 = .ok (.getfield 49, 3) := by decide +kernel
theorem dX1_change_5 : decode cX1_change 5 = .ok (.if_icmp .ne 39, 3) := by decide +kernel
theorem dX1_change_8 : decode cX1_change 8 = .ok (.iload_n 2, 1) := by decide +kernel
theorem dX1_change_9 : decode cX1_change 9 = .ok (.aload_n 0, 1) := by decide +kernel
theorem dX1_change_10 : decode cX1_change 10 = .ok (.getfield 9, 3) := by decide +kernel
theorem dX1_change_13 : decode cX1_change 13 = .ok (.if_icmp .ne 31, 3) := by decide +kernel
theorem dX1_change_16 : decode cX1_change 16 = .ok (.iload_n 3, 1) := by decide +kernel
theorem dX1_change_17 : decode cX1_change 17 = .ok (.aload_n 0, 1) := by decide +kernel
theorem dX1_change_18 : decode cX1_change 18 = .ok (.getfield 15, 3) := by decide +kernel
theorem dX1_change_21 : decode cX1_change 21 = .ok (.if_icmp .ne 23, 3) := by decide +kernel
theorem dX1_change_24 : decode cX1_change 24 = .ok (.iload 4, 2) := by decide +kernel
theorem dX1_change_26 : decode cX1_change 26 = .ok (.aload_n 0, 1) := by decide +kernel
theorem dX1_change_27 : decode cX1_change 27 = .ok (.getfield 52, 3) := by decide +kernel
theorem dX1_change_30 : decode cX1_change 30 = .ok (.if_icmp .ne 14, 3) := by decide +kernel
theorem dX1_change_33 : decode cX1_change 33 = .ok (.iload 5, 2) := by decide +kernel
theorem dX1_change_35 : decode cX1_change 35 = .ok (.aload_n 0, 1) := by decide +kernel
theorem dX1_change_36 : decode cX1_change 36 = .ok (.getfield 19, 3) := by decide +kernel
theorem dX1_change_39 : decode cX1_change 39 = .ok (.if_icmp .ne 5, 3) := by decide +kernel
theorem dX1_change_42 : decode cX1_change 42 = .ok (.iconst 0, 1) := by decide +kernel
theorem dX1_change_43 : decode cX1_change 43 = .ok (.ireturn, 1) := by decide +kernel
theorem dX1_change_44 : decode cX1_change 44 = .ok (.aload_n 0, 1) := by decide +kernel
theorem dX1_change_45 : decode cX1_change 45 = .ok (.iload_n 1, 1) := by decide +kernel
theorem dX1_change_46 : decode cX1_change 46 = .ok (.putfield 49, 3) := by decide +kernel
theorem dX1_change_49 : decode cX1_change 49 = .ok (.aload_n 0, 1) := by decide +kernel
theorem dX1_change_50 : decode cX1_change 50 = .ok (.iload_n 2, 1) := by decide +kernel
theorem dX1_change_51 : decode cX1_change 51 = .ok (.putfield 9, 3) := by decide +kernel
theorem dX1_change_54 : decode cX1_change 54 = .ok (.aload_n 0, 1) := by decide +kernel
theorem dX1_change_55 : decode cX1_change 55 = .ok (.iload_n 3, 1) := by decide +kernel
theorem dX1_change_56 : decode cX1_change 56 = .ok (.putfield 15, 3) := by decide +kernel
theorem dX1_change_59 : decode cX1_change 59 = .ok (.aload_n 0, 1) := by decide +kernel
theorem dX1_change_60 : decode cX1_change 60 = .ok (.iload 4, 2) := by decide +kernel
theorem dX1_change_62 : decode cX1_change 62 = .ok (.putfield 52, 3) := by decide +kernel
theorem dX1_change_65 : decode cX1_change 65 = .ok (.aload_n 0, 1) := by decide +kernel
theorem dX1_change_66 : decode cX1_change 66 = .ok (.iload 5, 2) := by decide +kernel
theorem dX1_change_68 : decode cX1_change 68 = .ok (.putfield 19, 3) := by decide +kernel
theorem dX1_change_71 : decode cX1_change 71 = .ok (.iconst 1, 1) := by decide +kernel
theorem dX1_change_72 : decode cX1_change 72 = .ok (.ireturn, 1) := by decide +kernel
set_option maxRecDepth 20000 in
theorem ggX1_hasDay_X2_within : GoodIn wsX1_hasDay wsX2_within := goodIn_r _ [4] (by decide +kernel) (by decide +kernel)
set_option maxRecDepth 20000 in
theorem gX1_hasDay_X2_within_n55 : GoodIn wsX1_hasDay (wsX2_within) := ggX1_hasDay_X2_within
theorem dX1_hasDay_0 : decode cX1_hasDay 0 = .ok (.iload_n 1, 1) := by decide +kernel
theorem dX1_hasDay_1 : decode cX1_hasDay 1 = .ok (.iconst 0, 1) := by decide +kernel
theorem dX1_hasDay_2 : decode cX1_hasDay 2 = .ok (.aload_n 0, 1) := by decide +kernel
theorem dX1_hasDay_3 : decode cX1_hasDay 3 = .ok (.getfield 49, 3) := by decide +kernel
theorem dX1_hasDay_6 : decode cX1_hasDay 6 = .ok (.invokestatic 55, 3) := by decide +kernel
theorem dX1_hasDay_9 : decode cX1_hasDay 9 = .ok (.ireturn, 1) := by decide +kernel
set_option maxRecDepth 20000 in
theorem ggX1_hasNode_X1_hasDay : GoodIn wsX1_hasNode wsX1_hasDay := goodIn_r _ [5, 6, 7, 8, 9, 10, 11, 12, 13, 14, 15, 16, 17, 18, 19, 20, 21] (by decide +kernel) (by decide +kernel)
set_option maxRecDepth 20000 in
theorem gX1_hasNode_X1_hasDay : GoodIn wsX1_hasNode (wsV RX1 59 RX1 yX1_hasDay wsX1_hasDay) := goodIn_app (goodIn_of _ (by decide +kernel)) ggX1_hasNode_X1_hasDay
set_option maxRecDepth 20000 in
theorem ggX1_hasNode_X2_within : GoodIn wsX1_hasNode wsX2_within := goodIn_r _ [9] (by decide +kernel) (by decide +kernel)
set_option maxRecDepth 20000 in
theorem gX1_hasNode_X2_within_n55 : GoodIn wsX1_hasNode (wsX2_within) := ggX1_hasNode_X2_within
theorem dX1_hasNode_0 : decode cX1_hasNode 0 = .ok (.aload_n 0, 1) := by decide +kernel
theorem dX1_hasNode_1 : decode cX1_hasNode 1 = .ok (.iload_n 1, 1) := by decide +kernel
theorem dX1_hasNode_2 : decode cX1_hasNode 2 = .ok (.invokevirtual 59, 3) := by decide +kernel
theorem dX1_hasNode_5 : decode cX1_hasNode 5 = .ok (.ifCond .eq 16, 3) := by decide +kernel
theorem dX1_hasNode_8 : decode cX1_hasNode 8 = .ok (.iload_n 2, 1) := by decide +kernel
theorem dX1_hasNode_9 : decode cX1_hasNode 9 = .ok (.iconst 0, 1) := by decide +kernel
theorem dX1_hasNode_10 : decode cX1_hasNode 10 = .ok (.iload_n 1, 1) := by decide +kernel
theorem dX1_hasNode_11 : decode cX1_hasNode 11 = .ok (.invokestatic 55, 3) := by decide +kernel
theorem dX1_hasNode_14 : decode cX1_hasNode 14 = .ok (.ifCond .eq 7, 3) := by decide +kernel
theorem dX1_hasNode_17 : decode cX1_hasNode 17 = .ok (.iconst 1, 1) := by decide +kernel
theorem dX1_hasNode_18 : decode cX1_hasNode 18 = .ok (.goto 4, 3) := by decide +kernel
theorem dX1_hasNode_21 : decode cX1_hasNode 21 = .ok (.iconst 0, 1) := by decide +kernel
theorem dX1_hasNode_22 : decode cX1_hasNode 22 = .ok (.ireturn, 1) := by decide +kernel
theorem dX1_level_0 : decode cX1_level 0 = .ok (.aload_n 0, 1) := by decide +kernel
theorem dX1_level_1 : decode cX1_level 1 = .ok (.getfield 49, 3) := by decide +kernel
theorem dX1_level_4 : decode cX1_level 4 = .ok (.iconst 2, 1) := by decide +kernel
theorem dX1_level_5 : decode cX1_level 5 = .ok (.iload_n 2, 1) := by decide +kernel
theorem dX1_level_6 : decode cX1_level 6 = .ok (.imul, 1) := by decide +kernel
theorem dX1_level_7 : decode cX1_level 7 = .ok (.iadd, 1) := by decide +kernel
theorem dX1_level_8 : decode cX1_level 8 = .ok (.iload_n 1, 1) := by decide +kernel
theorem dX1_level_9 : decode cX1_level 9 = .ok (.isub, 1) := by decide +kernel
theorem dX1_level_10 : decode cX1_level 10 = .ok (.ireturn, 1) := by decide +kernel
theorem dX1_rateAt_0 : decode cX1_rateAt 0 = .ok (.iconst 0, 1) := by decide +kernel
theorem dX1_rateAt_1 : decode cX1_rateAt 1 = .ok (.sipush 3000, 3) := by decide +kernel
theorem dX1_rateAt_4 : decode cX1_rateAt 4 = .ok (.aload_n 0, 1) := by decide +kernel
theorem dX1_rateAt_5 : decode cX1_rateAt 5 = .ok (.getfield 9, 3) := by decide +kernel
theorem dX1_rateAt_8 : decode cX1_rateAt 8 = .ok (.aload_n 0, 1) := by decide +kernel
theorem dX1_rateAt_9 : decode cX1_rateAt 9 = .ok (.getfield 15, 3) := by decide +kernel
theorem dX1_rateAt_12 : decode cX1_rateAt 12 = .ok (.iload_n 1, 1) := by decide +kernel
theorem dX1_rateAt_13 : decode cX1_rateAt 13 = .ok (.aload_n 0, 1) := by decide +kernel
theorem dX1_rateAt_14 : decode cX1_rateAt 14 = .ok (.getfield 49, 3) := by decide +kernel
theorem dX1_rateAt_17 : decode cX1_rateAt 17 = .ok (.isub, 1) := by decide +kernel
theorem dX1_rateAt_18 : decode cX1_rateAt 18 = .ok (.imul, 1) := by decide +kernel
theorem dX1_rateAt_19 : decode cX1_rateAt 19 = .ok (.iadd, 1) := by decide +kernel
theorem dX1_rateAt_20 : decode cX1_rateAt 20 = .ok (.invokestatic 63, 3) := by decide +kernel
theorem dX1_rateAt_23 : decode cX1_rateAt 23 = .ok (.invokestatic 69, 3) := by decide +kernel
theorem dX1_rateAt_26 : decode cX1_rateAt 26 = .ok (.ireturn, 1) := by decide +kernel
set_option maxRecDepth 20000 in
theorem ggX1_layPrices_X1_rateAt : GoodIn wsX1_layPrices wsX1_rateAt := goodIn_r _ [7, 8, 9, 1, 10, 11, 12, 13, 14, 15, 16, 39, 40, 41, 42, 43, 44, 45, 46, 47, 48, 49, 50] (by decide +kernel) (by decide +kernel)
set_option maxRecDepth 20000 in
theorem gX1_layPrices_X1_rateAt : GoodIn wsX1_layPrices (wsV RX1 72 RX1 yX1_rateAt wsX1_rateAt) := goodIn_app (goodIn_of _ (by decide +kernel)) ggX1_layPrices_X1_rateAt
set_option maxRecDepth 20000 in
theorem ggX1_layPrices_X0_priceAt : GoodIn wsX1_layPrices wsX0_priceAt := goodIn_r _ [21, 22, 23, 15, 12, 16, 24, 25, 26, 20, 27, 28, 29, 30, 31, 32, 33, 34, 35, 36, 37, 38, 51, 52, 53, 54, 55, 56, 57, 58, 59, 60] (by decide +kernel) (by decide +kernel)
set_option maxRecDepth 20000 in
theorem gX1_layPrices_X0_priceAt : GoodIn wsX1_layPrices (wsV RX1 76 RX0 yX0_priceAt wsX0_priceAt) := goodIn_app (goodIn_of _ (by decide +kernel)) ggX1_layPrices_X0_priceAt
theorem dX1_layPrices_0 : decode cX1_layPrices 0 = .ok (.iconst 0, 1) := by decide +kernel
theorem dX1_layPrices_1 : decode cX1_layPrices 1 = .ok (.istore_n 3, 1) := by decide +kernel
theorem dX1_layPrices_2 : decode cX1_layPrices 2 = .ok (.iload_n 3, 1) := by decide +kernel
theorem dX1_layPrices_3 : decode cX1_layPrices 3 = .ok (.iconst 2, 1) := by decide +kernel
theorem dX1_layPrices_4 : decode cX1_layPrices 4 = .ok (.aload_n 0, 1) := by decide +kernel
theorem dX1_layPrices_5 : decode cX1_layPrices 5 = .ok (.getfield 49, 3) := by decide +kernel
theorem dX1_layPrices_8 : decode cX1_layPrices 8 = .ok (.imul, 1) := by decide +kernel
theorem dX1_layPrices_9 : decode cX1_layPrices 9 = .ok (.if_icmp .gt 49, 3) := by decide +kernel
theorem dX1_layPrices_12 : decode cX1_layPrices 12 = .ok (.aload_n 0, 1) := by decide +kernel
theorem dX1_layPrices_13 : decode cX1_layPrices 13 = .ok (.iload_n 3, 1) := by decide +kernel
theorem dX1_layPrices_14 : decode cX1_layPrices 14 = .ok (.invokevirtual 72, 3) := by decide +kernel
theorem dX1_layPrices_17 : decode cX1_layPrices 17 = .ok (.istore 4, 2) := by decide +kernel
theorem dX1_layPrices_19 : decode cX1_layPrices 19 = .ok (.iconst 0, 1) := by decide +kernel
theorem dX1_layPrices_20 : decode cX1_layPrices 20 = .ok (.istore 5, 2) := by decide +kernel
theorem dX1_layPrices_22 : decode cX1_layPrices 22 = .ok (.iload 5, 2) := by decide +kernel
theorem dX1_layPrices_24 : decode cX1_layPrices 24 = .ok (.iload_n 2, 1) := by decide +kernel
theorem dX1_layPrices_25 : decode cX1_layPrices 25 = .ok (.if_icmp .ge 27, 3) := by decide +kernel
theorem dX1_layPrices_28 : decode cX1_layPrices 28 = .ok (.aload_n 0, 1) := by decide +kernel
theorem dX1_layPrices_29 : decode cX1_layPrices 29 = .ok (.getfield 32, 3) := by decide +kernel
theorem dX1_layPrices_32 : decode cX1_layPrices 32 = .ok (.iload_n 3, 1) := by decide +kernel
theorem dX1_layPrices_33 : decode cX1_layPrices 33 = .ok (.aaload, 1) := by decide +kernel
theorem dX1_layPrices_34 : decode cX1_layPrices 34 = .ok (.iload 5, 2) := by decide +kernel
theorem dX1_layPrices_36 : decode cX1_layPrices 36 = .ok (.aload_n 1, 1) := by decide +kernel
theorem dX1_layPrices_37 : decode cX1_layPrices 37 = .ok (.iload 5, 2) := by decide +kernel
theorem dX1_layPrices_39 : decode cX1_layPrices 39 = .ok (.aaload, 1) := by decide +kernel
theorem dX1_layPrices_40 : decode cX1_layPrices 40 = .ok (.iload 4, 2) := by decide +kernel
theorem dX1_layPrices_42 : decode cX1_layPrices 42 = .ok (.invokevirtual 76, 3) := by decide +kernel
theorem dX1_layPrices_45 : decode cX1_layPrices 45 = .ok (.iastore, 1) := by decide +kernel
theorem dX1_layPrices_46 : decode cX1_layPrices 46 = .ok (.iinc 5 1, 3) := by decide +kernel
theorem dX1_layPrices_49 : decode cX1_layPrices 49 = .ok (.goto (-27), 3) := by decide +kernel
theorem dX1_layPrices_52 : decode cX1_layPrices 52 = .ok (.iinc 3 1, 3) := by decide +kernel
theorem dX1_layPrices_55 : decode cX1_layPrices 55 = .ok (.goto (-53), 3) := by decide +kernel
theorem dX1_layPrices_58 : decode cX1_layPrices 58 = .ok (.return_, 1) := by decide +kernel
set_option maxRecDepth 20000 in
theorem ggX1_layNow_X2_isIn : GoodIn wsX1_layNow wsX2_isIn := goodIn_r _ [8] (by decide +kernel) (by decide +kernel)
set_option maxRecDepth 20000 in
theorem gX1_layNow_X2_isIn_n81 : GoodIn wsX1_layNow (wsX2_isIn) := ggX1_layNow_X2_isIn
set_option maxRecDepth 20000 in
theorem ggX1_layNow_X0_invoiceBy : GoodIn wsX1_layNow wsX0_invoiceBy := goodIn_r _ [13, 14, 15, 33, 34, 35, 36, 37, 38, 39, 40, 41, 42] (by decide +kernel) (by decide +kernel)
set_option maxRecDepth 20000 in
theorem gX1_layNow_X0_invoiceBy : GoodIn wsX1_layNow (wsV RX1 85 RX0 yX0_invoiceBy wsX0_invoiceBy) := goodIn_app (goodIn_of _ (by decide +kernel)) ggX1_layNow_X0_invoiceBy
set_option maxRecDepth 20000 in
theorem ggX1_layNow_X1_bestOn : GoodIn wsX1_layNow wsX1_bestOn := goodIn_r _ [20, 1, 5, 6, 7, 8, 21, 22, 23, 24, 25, 26, 27, 28, 29, 30, 31, 32] (by decide +kernel) (by decide +kernel)
set_option maxRecDepth 20000 in
theorem gX1_layNow_X1_bestOn : GoodIn wsX1_layNow (wsV RX1 89 RX1 yX1_bestOn wsX1_bestOn) := goodIn_app (goodIn_of _ (by decide +kernel)) ggX1_layNow_X1_bestOn
theorem dX1_layNow_0 : decode cX1_layNow 0 = .ok (.iconst 0, 1) := by decide +kernel
theorem dX1_layNow_1 : decode cX1_layNow 1 = .ok (.istore 4, 2) := by decide +kernel
theorem dX1_layNow_3 : decode cX1_layNow 3 = .ok (.iload 4, 2) := by decide +kernel
theorem dX1_layNow_5 : decode cX1_layNow 5 = .ok (.bipush 8, 2) := by decide +kernel
theorem dX1_layNow_7 : decode cX1_layNow 7 = .ok (.if_icmp .ge 34, 3) := by decide +kernel
theorem dX1_layNow_10 : decode cX1_layNow 10 = .ok (.iload_n 2, 1) := by decide +kernel
theorem dX1_layNow_11 : decode cX1_layNow 11 = .ok (.iload 4, 2) := by decide +kernel
theorem dX1_layNow_13 : decode cX1_layNow 13 = .ok (.invokestatic 81, 3) := by decide +kernel
theorem dX1_layNow_16 : decode cX1_layNow 16 = .ok (.ifCond .eq 19, 3) := by decide +kernel
theorem dX1_layNow_19 : decode cX1_layNow 19 = .ok (.aload_n 0, 1) := by decide +kernel
theorem dX1_layNow_20 : decode cX1_layNow 20 = .ok (.getfield 43, 3) := by decide +kernel
theorem dX1_layNow_23 : decode cX1_layNow 23 = .ok (.iload 4, 2) := by decide +kernel
theorem dX1_layNow_25 : decode cX1_layNow 25 = .ok (.aload_n 1, 1) := by decide +kernel
theorem dX1_layNow_26 : decode cX1_layNow 26 = .ok (.iload 4, 2) := by decide +kernel
theorem dX1_layNow_28 : decode cX1_layNow 28 = .ok (.aaload, 1) := by decide +kernel
theorem dX1_layNow_29 : decode cX1_layNow 29 = .ok (.iload_n 3, 1) := by decide +kernel
theorem dX1_layNow_30 : decode cX1_layNow 30 = .ok (.i2l, 1) := by decide +kernel
theorem dX1_layNow_31 : decode cX1_layNow 31 = .ok (.invokevirtual 85, 3) := by decide +kernel
theorem dX1_layNow_34 : decode cX1_layNow 34 = .ok (.lastore, 1) := by decide +kernel
theorem dX1_layNow_35 : decode cX1_layNow 35 = .ok (.iinc 4 1, 3) := by decide +kernel
theorem dX1_layNow_38 : decode cX1_layNow 38 = .ok (.goto (-35), 3) := by decide +kernel
theorem dX1_layNow_41 : decode cX1_layNow 41 = .ok (.iconst 0, 1) := by decide +kernel
theorem dX1_layNow_42 : decode cX1_layNow 42 = .ok (.istore 4, 2) := by decide +kernel
theorem dX1_layNow_44 : decode cX1_layNow 44 = .ok (.iload 4, 2) := by decide +kernel
theorem dX1_layNow_46 : decode cX1_layNow 46 = .ok (.iconst 2, 1) := by decide +kernel
theorem dX1_layNow_47 : decode cX1_layNow 47 = .ok (.aload_n 0, 1) := by decide +kernel
theorem dX1_layNow_48 : decode cX1_layNow 48 = .ok (.getfield 49, 3) := by decide +kernel
theorem dX1_layNow_51 : decode cX1_layNow 51 = .ok (.imul, 1) := by decide +kernel
theorem dX1_layNow_52 : decode cX1_layNow 52 = .ok (.if_icmp .gt 63, 3) := by decide +kernel
theorem dX1_layNow_55 : decode cX1_layNow 55 = .ok (.aload_n 0, 1) := by decide +kernel
theorem dX1_layNow_56 : decode cX1_layNow 56 = .ok (.iload 4, 2) := by decide +kernel
theorem dX1_layNow_58 : decode cX1_layNow 58 = .ok (.iload_n 2, 1) := by decide +kernel
theorem dX1_layNow_59 : decode cX1_layNow 59 = .ok (.invokevirtual 89, 3) := by decide +kernel
theorem dX1_layNow_62 : decode cX1_layNow 62 = .ok (.istore 5, 2) := by decide +kernel
theorem dX1_layNow_64 : decode cX1_layNow 64 = .ok (.aload_n 0, 1) := by decide +kernel
theorem dX1_layNow_65 : decode cX1_layNow 65 = .ok (.getfield 39, 3) := by decide +kernel
theorem dX1_layNow_68 : decode cX1_layNow 68 = .ok (.iload 4, 2) := by decide +kernel
theorem dX1_layNow_70 : decode cX1_layNow 70 = .ok (.iload 5, 2) := by decide +kernel
theorem dX1_layNow_72 : decode cX1_layNow 72 = .ok (.iastore, 1) := by decide +kernel
theorem dX1_layNow_73 : decode cX1_layNow 73 = .ok (.aload_n 0, 1) := by decide +kernel
theorem dX1_layNow_74 : decode cX1_layNow 74 = .ok (.getfield 35, 3) := by decide +kernel
theorem dX1_layNow_77 : decode cX1_layNow 77 = .ok (.iload 4, 2) := by decide +kernel
theorem dX1_layNow_79 : decode cX1_layNow 79 = .ok (.iload 5, 2) := by decide +kernel
theorem dX1_layNow_81 : decode cX1_layNow 81 = .ok (.iconst (-1), 1) := by decide +kernel
theorem dX1_layNow_82 : decode cX1_layNow 82 = .ok (.if_icmp .ne 7, 3) := by decide +kernel
theorem dX1_layNow_85 : decode cX1_layNow 85 = .ok (.lconst 0, 1) := by decide +kernel
theorem dX1_layNow_86 : decode cX1_layNow 86 = .ok (.goto 22, 3) := by decide +kernel
theorem dX1_layNow_89 : decode cX1_layNow 89 = .ok (.aload_n 0, 1) := by decide +kernel
theorem dX1_layNow_90 : decode cX1_layNow 90 = .ok (.getfield 43, 3) := by decide +kernel
theorem dX1_layNow_93 : decode cX1_layNow 93 = .ok (.iload 5, 2) := by decide +kernel
theorem dX1_layNow_95 : decode cX1_layNow 95 = .ok (.laload, 1) := by decide +kernel
theorem dX1_layNow_96 : decode cX1_layNow 96 = .ok (.aload_n 0, 1) := by decide +kernel
theorem dX1_layNow_97 : decode cX1_layNow 97 = .ok (.getfield 32, 3) := by decide +kernel
theorem dX1_layNow_100 : decode cX1_layNow 100 = .ok (.iload 4, 2) := by decide +kernel
theorem dX1_layNow_102 : decode cX1_layNow 102 = .ok (.aaload, 1) := by decide +kernel
theorem dX1_layNow_103 : decode cX1_layNow 103 = .ok (.iload 5, 2) := by decide +kernel
theorem dX1_layNow_105 : decode cX1_layNow 105 = .ok (.iaload, 1) := by decide +kernel
theorem dX1_layNow_106 : decode cX1_layNow 106 = .ok (.i2l, 1) := by decide +kernel
theorem dX1_layNow_107 : decode cX1_layNow 107 = .ok (.lsub, 1) := by decide +kernel
theorem dX1_layNow_108 : decode cX1_layNow 108 = .ok (.lastore, 1) := by decide +kernel
theorem dX1_layNow_109 : decode cX1_layNow 109 = .ok (.iinc 4 1, 3) := by decide +kernel
theorem dX1_layNow_112 : decode cX1_layNow 112 = .ok (.goto (-68), 3) := by decide +kernel
theorem dX1_layNow_115 : decode cX1_layNow 115 = .ok (.return_, 1) := by decide +kernel
set_option maxRecDepth 20000 in
theorem ggX1_bestOn_X2_isIn : GoodIn wsX1_bestOn wsX2_isIn := goodIn_r _ [5] (by decide +kernel) (by decide +kernel)
set_option maxRecDepth 20000 in
theorem gX1_bestOn_X2_isIn_n81 : GoodIn wsX1_bestOn (wsX2_isIn) := ggX1_bestOn_X2_isIn
theorem dX1_bestOn_0 : decode cX1_bestOn 0 = .ok (.iconst (-1), 1) := by decide +kernel
theorem dX1_bestOn_1 : decode cX1_bestOn 1 = .ok (.istore_n 3, 1) := by decide +kernel
theorem dX1_bestOn_2 : decode cX1_bestOn 2 = .ok (.lconst 0, 1) := by decide +kernel
theorem dX1_bestOn_3 : decode cX1_bestOn 3 = .ok (.lstore 4, 2) := by decide +kernel
theorem dX1_bestOn_5 : decode cX1_bestOn 5 = .ok (.iconst 0, 1) := by decide +kernel
theorem dX1_bestOn_6 : decode cX1_bestOn 6 = .ok (.istore 6, 2) := by decide +kernel
theorem dX1_bestOn_8 : decode cX1_bestOn 8 = .ok (.iload 6, 2) := by decide +kernel
theorem dX1_bestOn_10 : decode cX1_bestOn 10 = .ok (.bipush 8, 2) := by decide +kernel
theorem dX1_bestOn_12 : decode cX1_bestOn 12 = .ok (.if_icmp .ge 58, 3) := by decide +kernel
theorem dX1_bestOn_15 : decode cX1_bestOn 15 = .ok (.iload_n 2, 1) := by decide +kernel
theorem dX1_bestOn_16 : decode cX1_bestOn 16 = .ok (.iload 6, 2) := by decide +kernel
theorem dX1_bestOn_18 : decode cX1_bestOn 18 = .ok (.invokestatic 81, 3) := by decide +kernel
theorem dX1_bestOn_21 : decode cX1_bestOn 21 = .ok (.ifCond .eq 43, 3) := by decide +kernel
theorem dX1_bestOn_24 : decode cX1_bestOn 24 = .ok (.aload_n 0, 1) := by decide +kernel
theorem dX1_bestOn_25 : decode cX1_bestOn 25 = .ok (.getfield 43, 3) := by decide +kernel
theorem dX1_bestOn_28 : decode cX1_bestOn 28 = .ok (.iload 6, 2) := by decide +kernel
theorem dX1_bestOn_30 : decode cX1_bestOn 30 = .ok (.laload, 1) := by decide +kernel
theorem dX1_bestOn_31 : decode cX1_bestOn 31 = .ok (.aload_n 0, 1) := by decide +kernel
theorem dX1_bestOn_32 : decode cX1_bestOn 32 = .ok (.getfield 32, 3) := by decide +kernel
theorem dX1_bestOn_35 : decode cX1_bestOn 35 = .ok (.iload_n 1, 1) := by decide +kernel
theorem dX1_bestOn_36 : decode cX1_bestOn 36 = .ok (.aaload, 1) := by decide +kernel
theorem dX1_bestOn_37 : decode cX1_bestOn 37 = .ok (.iload 6, 2) := by decide +kernel
theorem dX1_bestOn_39 : decode cX1_bestOn 39 = .ok (.iaload, 1) := by decide +kernel
theorem dX1_bestOn_40 : decode cX1_bestOn 40 = .ok (.i2l, 1) := by decide +kernel
theorem dX1_bestOn_41 : decode cX1_bestOn 41 = .ok (.lsub, 1) := by decide +kernel
theorem dX1_bestOn_42 : decode cX1_bestOn 42 = .ok (.lstore 7, 2) := by decide +kernel
theorem dX1_bestOn_44 : decode cX1_bestOn 44 = .ok (.iload_n 3, 1) := by decide +kernel
theorem dX1_bestOn_45 : decode cX1_bestOn 45 = .ok (.iconst (-1), 1) := by decide +kernel
theorem dX1_bestOn_46 : decode cX1_bestOn 46 = .ok (.if_icmp .eq 11, 3) := by decide +kernel
theorem dX1_bestOn_49 : decode cX1_bestOn 49 = .ok (.lload 7, 2) := by decide +kernel
theorem dX1_bestOn_51 : decode cX1_bestOn 51 = .ok (.lload 4, 2) := by decide +kernel
theorem dX1_bestOn_53 : decode cX1_bestOn 53 = .ok (.lcmp, 1) := by decide +kernel
theorem dX1_bestOn_54 : decode cX1_bestOn 54 = .ok (.ifCond .le 10, 3) := by decide +kernel
theorem dX1_bestOn_57 : decode cX1_bestOn 57 = .ok (.iload 6, 2) := by decide +kernel
theorem dX1_bestOn_59 : decode cX1_bestOn 59 = .ok (.istore_n 3, 1) := by decide +kernel
theorem dX1_bestOn_60 : decode cX1_bestOn 60 = .ok (.lload 7, 2) := by decide +kernel
theorem dX1_bestOn_62 : decode cX1_bestOn 62 = .ok (.lstore 4, 2) := by decide +kernel
theorem dX1_bestOn_64 : decode cX1_bestOn 64 = .ok (.iinc 6 1, 3) := by decide +kernel
theorem dX1_bestOn_67 : decode cX1_bestOn 67 = .ok (.goto (-59), 3) := by decide +kernel
theorem dX1_bestOn_70 : decode cX1_bestOn 70 = .ok (.iload_n 3, 1) := by decide +kernel
theorem dX1_bestOn_71 : decode cX1_bestOn 71 = .ok (.ireturn, 1) := by decide +kernel
set_option maxRecDepth 20000 in
theorem ggX1_rollBack_X1_deliverAt : GoodIn wsX1_rollBack wsX1_deliverAt := goodIn_r _ [10, 1, 4, 5, 11, 12, 13, 14, 9, 15, 16, 21, 22, 23, 24, 25, 26, 27, 28, 29, 30, 31, 32] (by decide +kernel) (by decide +kernel)
set_option maxRecDepth 20000 in
theorem gX1_rollBack_X1_deliverAt : GoodIn wsX1_rollBack (wsV RX1 92 RX1 yX1_deliverAt wsX1_deliverAt) := goodIn_app (goodIn_of _ (by decide +kernel)) ggX1_rollBack_X1_deliverAt
set_option maxRecDepth 20000 in
theorem ggX1_rollBack_J9_floorDiv_f86c9 : GoodIn wsX1_rollBack wsJ9_floorDiv_f86c9 := goodIn_r _ [20] (by decide +kernel) (by decide +kernel)
set_option maxRecDepth 20000 in
theorem gX1_rollBack_J9_floorDiv_f86c9 : GoodIn wsX1_rollBack (va_wsS RX1 98 yJ9_floorDiv_f86c9 wsJ9_floorDiv_f86c9) := goodIn_app (goodIn_of _ (by decide +kernel)) ggX1_rollBack_J9_floorDiv_f86c9
set_option maxRecDepth 20000 in
theorem ggX1_rollBack_X1_level : GoodIn wsX1_rollBack wsX1_level := goodIn_r _ [15, 16, 21, 22, 23, 24, 25, 26, 27, 28, 29, 30, 31, 32] (by decide +kernel) (by decide +kernel)
set_option maxRecDepth 20000 in
theorem gX1_rollBack_X1_level : GoodIn wsX1_rollBack (wsV RX1 102 RX1 yX1_level wsX1_level) := goodIn_app (goodIn_of _ (by decide +kernel)) ggX1_rollBack_X1_level
theorem dX1_rollBack_0 : decode cX1_rollBack 0 = .ok (.iconst 0, 1) := by decide +kernel
theorem dX1_rollBack_1 : decode cX1_rollBack 1 = .ok (.istore_n 3, 1) := by decide +kernel
theorem dX1_rollBack_2 : decode cX1_rollBack 2 = .ok (.iload_n 3, 1) := by decide +kernel
theorem dX1_rollBack_3 : decode cX1_rollBack 3 = .ok (.iload_n 1, 1) := by decide +kernel
theorem dX1_rollBack_4 : decode cX1_rollBack 4 = .ok (.if_icmp .gt 15, 3) := by decide +kernel
theorem dX1_rollBack_7 : decode cX1_rollBack 7 = .ok (.aload_n 0, 1) := by decide +kernel
theorem dX1_rollBack_8 : decode cX1_rollBack 8 = .ok (.iload_n 1, 1) := by decide +kernel
theorem dX1_rollBack_9 : decode cX1_rollBack 9 = .ok (.iload_n 3, 1) := by decide +kernel
theorem dX1_rollBack_10 : decode cX1_rollBack 10 = .ok (.invokevirtual 92, 3) := by decide +kernel
theorem dX1_rollBack_13 : decode cX1_rollBack 13 = .ok (.iinc 3 1, 3) := by decide +kernel
theorem dX1_rollBack_16 : decode cX1_rollBack 16 = .ok (.goto (-14), 3) := by decide +kernel
theorem dX1_rollBack_19 : decode cX1_rollBack 19 = .ok (.iload_n 1, 1) := by decide +kernel
theorem dX1_rollBack_20 : decode cX1_rollBack 20 = .ok (.iconst 1, 1) := by decide +kernel
theorem dX1_rollBack_21 : decode cX1_rollBack 21 = .ok (.isub, 1) := by decide +kernel
theorem dX1_rollBack_22 : decode cX1_rollBack 22 = .ok (.istore_n 3, 1) := by decide +kernel
theorem dX1_rollBack_23 : decode cX1_rollBack 23 = .ok (.iload_n 3, 1) := by decide +kernel
theorem dX1_rollBack_24 : decode cX1_rollBack 24 = .ok (.ifCond .lt 117, 3) := by decide +kernel
theorem dX1_rollBack_27 : decode cX1_rollBack 27 = .ok (.iconst 0, 1) := by decide +kernel
theorem dX1_rollBack_28 : decode cX1_rollBack 28 = .ok (.istore 4, 2) := by decide +kernel
theorem dX1_rollBack_30 : decode cX1_rollBack 30 = .ok (.iload 4, 2) := by decide +kernel
theorem dX1_rollBack_32 : decode cX1_rollBack 32 = .ok (.iload_n 3, 1) := by decide +kernel
theorem dX1_rollBack_33 : decode cX1_rollBack 33 = .ok (.if_icmp .gt 102, 3) := by decide +kernel
theorem dX1_rollBack_36 : decode cX1_rollBack 36 = .ok (.aload_n 0, 1) := by decide +kernel
theorem dX1_rollBack_37 : decode cX1_rollBack 37 = .ok (.getfield 24, 3) := by decide +kernel
theorem dX1_rollBack_40 : decode cX1_rollBack 40 = .ok (.iload_n 3, 1) := by decide +kernel
theorem dX1_rollBack_41 : decode cX1_rollBack 41 = .ok (.iconst 1, 1) := by decide +kernel
theorem dX1_rollBack_42 : decode cX1_rollBack 42 = .ok (.iadd, 1) := by decide +kernel
theorem dX1_rollBack_43 : decode cX1_rollBack 43 = .ok (.aaload, 1) := by decide +kernel
theorem dX1_rollBack_44 : decode cX1_rollBack 44 = .ok (.iload 4, 2) := by decide +kernel
theorem dX1_rollBack_46 : decode cX1_rollBack 46 = .ok (.laload, 1) := by decide +kernel
theorem dX1_rollBack_47 : decode cX1_rollBack 47 = .ok (.aload_n 0, 1) := by decide +kernel
theorem dX1_rollBack_48 : decode cX1_rollBack 48 = .ok (.getfield 24, 3) := by decide +kernel
theorem dX1_rollBack_51 : decode cX1_rollBack 51 = .ok (.iload_n 3, 1) := by decide +kernel
theorem dX1_rollBack_52 : decode cX1_rollBack 52 = .ok (.iconst 1, 1) := by decide +kernel
theorem dX1_rollBack_53 : decode cX1_rollBack 53 = .ok (.iadd, 1) := by decide +kernel
theorem dX1_rollBack_54 : decode cX1_rollBack 54 = .ok (.aaload, 1) := by decide +kernel
theorem dX1_rollBack_55 : decode cX1_rollBack 55 = .ok (.iload 4, 2) := by decide +kernel
theorem dX1_rollBack_57 : decode cX1_rollBack 57 = .ok (.iconst 1, 1) := by decide +kernel
theorem dX1_rollBack_58 : decode cX1_rollBack 58 = .ok (.iadd, 1) := by decide +kernel
theorem dX1_rollBack_59 : decode cX1_rollBack 59 = .ok (.laload, 1) := by decide +kernel
theorem dX1_rollBack_60 : decode cX1_rollBack 60 = .ok (.ladd, 1) := by decide +kernel
theorem dX1_rollBack_61 : decode cX1_rollBack 61 = .ok (.ldc2_w 96, 3) := by decide +kernel
theorem dX1_rollBack_64 : decode cX1_rollBack 64 = .ok (.invokestatic 98, 3) := by decide +kernel
theorem dX1_rollBack_67 : decode cX1_rollBack 67 = .ok (.aload_n 0, 1) := by decide +kernel
theorem dX1_rollBack_68 : decode cX1_rollBack 68 = .ok (.getfield 52, 3) := by decide +kernel
theorem dX1_rollBack_71 : decode cX1_rollBack 71 = .ok (.i2l, 1) := by decide +kernel
theorem dX1_rollBack_72 : decode cX1_rollBack 72 = .ok (.lsub, 1) := by decide +kernel
theorem dX1_rollBack_73 : decode cX1_rollBack 73 = .ok (.lstore 5, 2) := by decide +kernel
theorem dX1_rollBack_75 : decode cX1_rollBack 75 = .ok (.iload_n 2, 1) := by decide +kernel
theorem dX1_rollBack_76 : decode cX1_rollBack 76 = .ok (.ifCond .eq 31, 3) := by decide +kernel
theorem dX1_rollBack_79 : decode cX1_rollBack 79 = .ok (.aload_n 0, 1) := by decide +kernel
theorem dX1_rollBack_80 : decode cX1_rollBack 80 = .ok (.getfield 35, 3) := by decide +kernel
theorem dX1_rollBack_83 : decode cX1_rollBack 83 = .ok (.aload_n 0, 1) := by decide +kernel
theorem dX1_rollBack_84 : decode cX1_rollBack 84 = .ok (.iload_n 3, 1) := by decide +kernel
theorem dX1_rollBack_85 : decode cX1_rollBack 85 = .ok (.iload 4, 2) := by decide +kernel
theorem dX1_rollBack_87 : decode cX1_rollBack 87 = .ok (.invokevirtual 102, 3) := by decide +kernel
theorem dX1_rollBack_90 : decode cX1_rollBack 90 = .ok (.laload, 1) := by decide +kernel
theorem dX1_rollBack_91 : decode cX1_rollBack 91 = .ok (.lload 5, 2) := by decide +kernel
theorem dX1_rollBack_93 : decode cX1_rollBack 93 = .ok (.lcmp, 1) := by decide +kernel
theorem dX1_rollBack_94 : decode cX1_rollBack 94 = .ok (.ifCond .lt 13, 3) := by decide +kernel
theorem dX1_rollBack_97 : decode cX1_rollBack 97 = .ok (.aload_n 0, 1) := by decide +kernel
theorem dX1_rollBack_98 : decode cX1_rollBack 98 = .ok (.iload_n 3, 1) := by decide +kernel
theorem dX1_rollBack_99 : decode cX1_rollBack 99 = .ok (.iload 4, 2) := by decide +kernel
theorem dX1_rollBack_101 : decode cX1_rollBack 101 = .ok (.invokevirtual 92, 3) := by decide +kernel
theorem dX1_rollBack_104 : decode cX1_rollBack 104 = .ok (.goto 25, 3) := by decide +kernel
theorem dX1_rollBack_107 : decode cX1_rollBack 107 = .ok (.aload_n 0, 1) := by decide +kernel
theorem dX1_rollBack_108 : decode cX1_rollBack 108 = .ok (.getfield 24, 3) := by decide +kernel
theorem dX1_rollBack_111 : decode cX1_rollBack 111 = .ok (.iload_n 3, 1) := by decide +kernel
theorem dX1_rollBack_112 : decode cX1_rollBack 112 = .ok (.aaload, 1) := by decide +kernel
theorem dX1_rollBack_113 : decode cX1_rollBack 113 = .ok (.iload 4, 2) := by decide +kernel
theorem dX1_rollBack_115 : decode cX1_rollBack 115 = .ok (.lload 5, 2) := by decide +kernel
theorem dX1_rollBack_117 : decode cX1_rollBack 117 = .ok (.lastore, 1) := by decide +kernel
theorem dX1_rollBack_118 : decode cX1_rollBack 118 = .ok (.aload_n 0, 1) := by decide +kernel
theorem dX1_rollBack_119 : decode cX1_rollBack 119 = .ok (.getfield 29, 3) := by decide +kernel
theorem dX1_rollBack_122 : decode cX1_rollBack 122 = .ok (.iload_n 3, 1) := by decide +kernel
theorem dX1_rollBack_123 : decode cX1_rollBack 123 = .ok (.aaload, 1) := by decide +kernel
theorem dX1_rollBack_124 : decode cX1_rollBack 124 = .ok (.iload 4, 2) := by decide +kernel
theorem dX1_rollBack_126 : decode cX1_rollBack 126 = .ok (.bipush (-2), 2) := by decide +kernel
theorem dX1_rollBack_128 : decode cX1_rollBack 128 = .ok (.iastore, 1) := by decide +kernel
theorem dX1_rollBack_129 : decode cX1_rollBack 129 = .ok (.iinc 4 1, 3) := by decide +kernel
theorem dX1_rollBack_132 : decode cX1_rollBack 132 = .ok (.goto (-102), 3) := by decide +kernel
theorem dX1_rollBack_135 : decode cX1_rollBack 135 = .ok (.iinc 3 (-1), 3) := by decide +kernel
theorem dX1_rollBack_138 : decode cX1_rollBack 138 = .ok (.goto (-115), 3) := by decide +kernel
theorem dX1_rollBack_141 : decode cX1_rollBack 141 = .ok (.aload_n 0, 1) := by decide +kernel
theorem dX1_rollBack_142 : decode cX1_rollBack 142 = .ok (.getfield 24, 3) := by decide +kernel
theorem dX1_rollBack_145 : decode cX1_rollBack 145 = .ok (.iconst 0, 1) := by decide +kernel
theorem dX1_rollBack_146 : decode cX1_rollBack 146 = .ok (.aaload, 1) := by decide +kernel
theorem dX1_rollBack_147 : decode cX1_rollBack 147 = .ok (.iconst 0, 1) := by decide +kernel
theorem dX1_rollBack_148 : decode cX1_rollBack 148 = .ok (.laload, 1) := by decide +kernel
theorem dX1_rollBack_149 : decode cX1_rollBack 149 = .ok (.lreturn, 1) := by decide +kernel
set_option maxRecDepth 20000 in
theorem ggX1_deliverAt_X1_level : GoodIn wsX1_deliverAt wsX1_level := goodIn_r _ [9, 10, 11, 12, 13, 14, 15, 16, 17, 18, 19, 20, 21, 22] (by decide +kernel) (by decide +kernel)
set_option maxRecDepth 20000 in
theorem gX1_deliverAt_X1_level : GoodIn wsX1_deliverAt (wsV RX1 102 RX1 yX1_level wsX1_level) := goodIn_app (goodIn_of _ (by decide +kernel)) ggX1_deliverAt_X1_level
theorem dX1_deliverAt_0 : decode cX1_deliverAt 0 = .ok (.aload_n 0, 1) := by decide +kernel
theorem dX1_deliverAt_1 : decode cX1_deliverAt 1 = .ok (.iload_n 1, 1) := by decide +kernel
theorem dX1_deliverAt_2 : decode cX1_deliverAt 2 = .ok (.iload_n 2, 1) := by decide +kernel
theorem dX1_deliverAt_3 : decode cX1_deliverAt 3 = .ok (.invokevirtual 102, 3) := by decide +kernel
theorem dX1_deliverAt_6 : decode cX1_deliverAt 6 = .ok (.istore_n 3, 1) := by decide +kernel
theorem dX1_deliverAt_7 : decode cX1_deliverAt 7 = .ok (.aload_n 0, 1) := by decide +kernel
theorem dX1_deliverAt_8 : decode cX1_deliverAt 8 = .ok (.getfield 24, 3) := by decide +kernel
theorem dX1_deliverAt_11 : decode cX1_deliverAt 11 = .ok (.iload_n 1, 1) := by decide +kernel
theorem dX1_deliverAt_12 : decode cX1_deliverAt 12 = .ok (.aaload, 1) := by decide +kernel
theorem dX1_deliverAt_13 : decode cX1_deliverAt 13 = .ok (.iload_n 2, 1) := by decide +kernel
theorem dX1_deliverAt_14 : decode cX1_deliverAt 14 = .ok (.aload_n 0, 1) := by decide +kernel
theorem dX1_deliverAt_15 : decode cX1_deliverAt 15 = .ok (.getfield 35, 3) := by decide +kernel
theorem dX1_deliverAt_18 : decode cX1_deliverAt 18 = .ok (.iload_n 3, 1) := by decide +kernel
theorem dX1_deliverAt_19 : decode cX1_deliverAt 19 = .ok (.laload, 1) := by decide +kernel
theorem dX1_deliverAt_20 : decode cX1_deliverAt 20 = .ok (.lastore, 1) := by decide +kernel
theorem dX1_deliverAt_21 : decode cX1_deliverAt 21 = .ok (.aload_n 0, 1) := by decide +kernel
theorem dX1_deliverAt_22 : decode cX1_deliverAt 22 = .ok (.getfield 29, 3) := by decide +kernel
theorem dX1_deliverAt_25 : decode cX1_deliverAt 25 = .ok (.iload_n 1, 1) := by decide +kernel
theorem dX1_deliverAt_26 : decode cX1_deliverAt 26 = .ok (.aaload, 1) := by decide +kernel
theorem dX1_deliverAt_27 : decode cX1_deliverAt 27 = .ok (.iload_n 2, 1) := by decide +kernel
theorem dX1_deliverAt_28 : decode cX1_deliverAt 28 = .ok (.aload_n 0, 1) := by decide +kernel
theorem dX1_deliverAt_29 : decode cX1_deliverAt 29 = .ok (.getfield 39, 3) := by decide +kernel
theorem dX1_deliverAt_32 : decode cX1_deliverAt 32 = .ok (.iload_n 3, 1) := by decide +kernel
theorem dX1_deliverAt_33 : decode cX1_deliverAt 33 = .ok (.iaload, 1) := by decide +kernel
theorem dX1_deliverAt_34 : decode cX1_deliverAt 34 = .ok (.iastore, 1) := by decide +kernel
theorem dX1_deliverAt_35 : decode cX1_deliverAt 35 = .ok (.return_, 1) := by decide +kernel
set_option maxRecDepth 20000 in
theorem ggX1_pathsThatEndOn_J7_fill_53178 : GoodIn wsX1_pathsThatEndOn wsJ7_fill_53178 := goodIn_r _ [7] (by decide +kernel) (by decide +kernel)
set_option maxRecDepth 20000 in
theorem gX1_pathsThatEndOn_J7_fill_53178 : GoodIn wsX1_pathsThatEndOn (va_wsS RX1 105 yJ7_fill_53178 wsJ7_fill_53178) := goodIn_app (goodIn_of _ (by decide +kernel)) ggX1_pathsThatEndOn_J7_fill_53178
theorem dX1_pathsThatEndOn_0 : decode cX1_pathsThatEndOn 0 = .ok (.aload_n 0, 1) := by decide +kernel
theorem dX1_pathsThatEndOn_1 : decode cX1_pathsThatEndOn 1 = .ok (.getfield 46, 3) := by decide +kernel
theorem dX1_pathsThatEndOn_4 : decode cX1_pathsThatEndOn 4 = .ok (.iconst 0, 1) := by decide +kernel
theorem dX1_pathsThatEndOn_5 : decode cX1_pathsThatEndOn 5 = .ok (.invokestatic 105, 3) := by decide +kernel
theorem dX1_pathsThatEndOn_8 : decode cX1_pathsThatEndOn 8 = .ok (.aload_n 0, 1) := by decide +kernel
theorem dX1_pathsThatEndOn_9 : decode cX1_pathsThatEndOn 9 = .ok (.getfield 46, 3) := by decide +kernel
theorem dX1_pathsThatEndOn_12 : decode cX1_pathsThatEndOn 12 = .ok (.iconst 0, 1) := by decide +kernel
theorem dX1_pathsThatEndOn_13 : decode cX1_pathsThatEndOn 13 = .ok (.iconst 1, 1) := by decide +kernel
theorem dX1_pathsThatEndOn_14 : decode cX1_pathsThatEndOn 14 = .ok (.iastore, 1) := by decide +kernel
theorem dX1_pathsThatEndOn_15 : decode cX1_pathsThatEndOn 15 = .ok (.iconst 0, 1) := by decide +kernel
theorem dX1_pathsThatEndOn_16 : decode cX1_pathsThatEndOn 16 = .ok (.istore_n 2, 1) := by decide +kernel
theorem dX1_pathsThatEndOn_17 : decode cX1_pathsThatEndOn 17 = .ok (.iload_n 2, 1) := by decide +kernel
theorem dX1_pathsThatEndOn_18 : decode cX1_pathsThatEndOn 18 = .ok (.iload_n 1, 1) := by decide +kernel
theorem dX1_pathsThatEndOn_19 : decode cX1_pathsThatEndOn 19 = .ok (.if_icmp .ge 58, 3) := by decide +kernel
theorem dX1_pathsThatEndOn_22 : decode cX1_pathsThatEndOn 22 = .ok (.iload_n 2, 1) := by decide +kernel
theorem dX1_pathsThatEndOn_23 : decode cX1_pathsThatEndOn 23 = .ok (.istore_n 3, 1) := by decide +kernel
theorem dX1_pathsThatEndOn_24 : decode cX1_pathsThatEndOn 24 = .ok (.iload_n 3, 1) := by decide +kernel
theorem dX1_pathsThatEndOn_25 : decode cX1_pathsThatEndOn 25 = .ok (.ifCond .lt 46, 3) := by decide +kernel
theorem dX1_pathsThatEndOn_28 : decode cX1_pathsThatEndOn 28 = .ok (.aload_n 0, 1) := by decide +kernel
theorem dX1_pathsThatEndOn_29 : decode cX1_pathsThatEndOn 29 = .ok (.getfield 29, 3) := by decide +kernel
theorem dX1_pathsThatEndOn_32 : decode cX1_pathsThatEndOn 32 = .ok (.iload_n 2, 1) := by decide +kernel
theorem dX1_pathsThatEndOn_33 : decode cX1_pathsThatEndOn 33 = .ok (.aaload, 1) := by decide +kernel
theorem dX1_pathsThatEndOn_34 : decode cX1_pathsThatEndOn 34 = .ok (.iload_n 3, 1) := by decide +kernel
theorem dX1_pathsThatEndOn_35 : decode cX1_pathsThatEndOn 35 = .ok (.iaload, 1) := by decide +kernel
theorem dX1_pathsThatEndOn_36 : decode cX1_pathsThatEndOn 36 = .ok (.bipush (-2), 2) := by decide +kernel
theorem dX1_pathsThatEndOn_38 : decode cX1_pathsThatEndOn 38 = .ok (.if_icmp .eq 10, 3) := by decide +kernel
theorem dX1_pathsThatEndOn_41 : decode cX1_pathsThatEndOn 41 = .ok (.aload_n 0, 1) := by decide +kernel
theorem dX1_pathsThatEndOn_42 : decode cX1_pathsThatEndOn 42 = .ok (.getfield 46, 3) := by decide +kernel
theorem dX1_pathsThatEndOn_45 : decode cX1_pathsThatEndOn 45 = .ok (.iload_n 3, 1) := by decide +kernel
theorem dX1_pathsThatEndOn_46 : decode cX1_pathsThatEndOn 46 = .ok (.iconst 0, 1) := by decide +kernel
theorem dX1_pathsThatEndOn_47 : decode cX1_pathsThatEndOn 47 = .ok (.iastore, 1) := by decide +kernel
theorem dX1_pathsThatEndOn_48 : decode cX1_pathsThatEndOn 48 = .ok (.aload_n 0, 1) := by decide +kernel
theorem dX1_pathsThatEndOn_49 : decode cX1_pathsThatEndOn 49 = .ok (.getfield 46, 3) := by decide +kernel
theorem dX1_pathsThatEndOn_52 : decode cX1_pathsThatEndOn 52 = .ok (.iload_n 3, 1) := by decide +kernel
theorem dX1_pathsThatEndOn_53 : decode cX1_pathsThatEndOn 53 = .ok (.iconst 1, 1) := by decide +kernel
theorem dX1_pathsThatEndOn_54 : decode cX1_pathsThatEndOn 54 = .ok (.iadd, 1) := by decide +kernel
theorem dX1_pathsThatEndOn_55 : decode cX1_pathsThatEndOn 55 = .ok (.dup2, 1) := by decide +kernel
theorem dX1_pathsThatEndOn_56 : decode cX1_pathsThatEndOn 56 = .ok (.iaload, 1) := by decide +kernel
theorem dX1_pathsThatEndOn_57 : decode cX1_pathsThatEndOn 57 = .ok (.aload_n 0, 1) := by decide +kernel
theorem dX1_pathsThatEndOn_58 : decode cX1_pathsThatEndOn 58 = .ok (.getfield 46, 3) := by decide +kernel
theorem dX1_pathsThatEndOn_61 : decode cX1_pathsThatEndOn 61 = .ok (.iload_n 3, 1) := by decide +kernel
theorem dX1_pathsThatEndOn_62 : decode cX1_pathsThatEndOn 62 = .ok (.iaload, 1) := by decide +kernel
theorem dX1_pathsThatEndOn_63 : decode cX1_pathsThatEndOn 63 = .ok (.iadd, 1) := by decide +kernel
theorem dX1_pathsThatEndOn_64 : decode cX1_pathsThatEndOn 64 = .ok (.iastore, 1) := by decide +kernel
theorem dX1_pathsThatEndOn_65 : decode cX1_pathsThatEndOn 65 = .ok (.iinc 3 (-1), 3) := by decide +kernel
theorem dX1_pathsThatEndOn_68 : decode cX1_pathsThatEndOn 68 = .ok (.goto (-44), 3) := by decide +kernel
theorem dX1_pathsThatEndOn_71 : decode cX1_pathsThatEndOn 71 = .ok (.iinc 2 1, 3) := by decide +kernel
theorem dX1_pathsThatEndOn_74 : decode cX1_pathsThatEndOn 74 = .ok (.goto (-57), 3) := by decide +kernel
theorem dX1_pathsThatEndOn_77 : decode cX1_pathsThatEndOn 77 = .ok (.iconst 0, 1) := by decide +kernel
theorem dX1_pathsThatEndOn_78 : decode cX1_pathsThatEndOn 78 = .ok (.istore_n 2, 1) := by decide +kernel
theorem dX1_pathsThatEndOn_79 : decode cX1_pathsThatEndOn 79 = .ok (.iconst 0, 1) := by decide +kernel
theorem dX1_pathsThatEndOn_80 : decode cX1_pathsThatEndOn 80 = .ok (.istore_n 3, 1) := by decide +kernel
theorem dX1_pathsThatEndOn_81 : decode cX1_pathsThatEndOn 81 = .ok (.iload_n 3, 1) := by decide +kernel
theorem dX1_pathsThatEndOn_82 : decode cX1_pathsThatEndOn 82 = .ok (.iload_n 1, 1) := by decide +kernel
theorem dX1_pathsThatEndOn_83 : decode cX1_pathsThatEndOn 83 = .ok (.if_icmp .gt 31, 3) := by decide +kernel
theorem dX1_pathsThatEndOn_86 : decode cX1_pathsThatEndOn 86 = .ok (.aload_n 0, 1) := by decide +kernel
theorem dX1_pathsThatEndOn_87 : decode cX1_pathsThatEndOn 87 = .ok (.getfield 29, 3) := by decide +kernel
theorem dX1_pathsThatEndOn_90 : decode cX1_pathsThatEndOn 90 = .ok (.iload_n 1, 1) := by decide +kernel
theorem dX1_pathsThatEndOn_91 : decode cX1_pathsThatEndOn 91 = .ok (.aaload, 1) := by decide +kernel
theorem dX1_pathsThatEndOn_92 : decode cX1_pathsThatEndOn 92 = .ok (.iload_n 3, 1) := by decide +kernel
theorem dX1_pathsThatEndOn_93 : decode cX1_pathsThatEndOn 93 = .ok (.iaload, 1) := by decide +kernel
theorem dX1_pathsThatEndOn_94 : decode cX1_pathsThatEndOn 94 = .ok (.bipush (-2), 2) := by decide +kernel
theorem dX1_pathsThatEndOn_96 : decode cX1_pathsThatEndOn 96 = .ok (.if_icmp .eq 12, 3) := by decide +kernel
theorem dX1_pathsThatEndOn_99 : decode cX1_pathsThatEndOn 99 = .ok (.iload_n 2, 1) := by decide +kernel
theorem dX1_pathsThatEndOn_100 : decode cX1_pathsThatEndOn 100 = .ok (.aload_n 0, 1) := by decide +kernel
theorem dX1_pathsThatEndOn_101 : decode cX1_pathsThatEndOn 101 = .ok (.getfield 46, 3) := by decide +kernel
theorem dX1_pathsThatEndOn_104 : decode cX1_pathsThatEndOn 104 = .ok (.iload_n 3, 1) := by decide +kernel
theorem dX1_pathsThatEndOn_105 : decode cX1_pathsThatEndOn 105 = .ok (.iaload, 1) := by decide +kernel
theorem dX1_pathsThatEndOn_106 : decode cX1_pathsThatEndOn 106 = .ok (.iadd, 1) := by decide +kernel
theorem dX1_pathsThatEndOn_107 : decode cX1_pathsThatEndOn 107 = .ok (.istore_n 2, 1) := by decide +kernel
theorem dX1_pathsThatEndOn_108 : decode cX1_pathsThatEndOn 108 = .ok (.iinc 3 1, 3) := by decide +kernel
theorem dX1_pathsThatEndOn_111 : decode cX1_pathsThatEndOn 111 = .ok (.goto (-30), 3) := by decide +kernel
theorem dX1_pathsThatEndOn_114 : decode cX1_pathsThatEndOn 114 = .ok (.iload_n 2, 1) := by decide +kernel
theorem dX1_pathsThatEndOn_115 : decode cX1_pathsThatEndOn 115 = .ok (.aload_n 0, 1) := by decide +kernel
theorem dX1_pathsThatEndOn_116 : decode cX1_pathsThatEndOn 116 = .ok (.getfield 49, 3) := by decide +kernel
theorem dX1_pathsThatEndOn_119 : decode cX1_pathsThatEndOn 119 = .ok (.iload_n 1, 1) := by decide +kernel
theorem dX1_pathsThatEndOn_120 : decode cX1_pathsThatEndOn 120 = .ok (.isub, 1) := by decide +kernel
theorem dX1_pathsThatEndOn_121 : decode cX1_pathsThatEndOn 121 = .ok (.ishl, 1) := by decide +kernel
theorem dX1_pathsThatEndOn_122 : decode cX1_pathsThatEndOn 122 = .ok (.ireturn, 1) := by decide +kernel
set_option maxRecDepth 20000 in
theorem ggX2_init_X1_init : GoodIn wsX2_init wsX1_init := goodIn_r _ [21, 22, 2, 3, 23, 24, 25, 26, 27, 15, 28, 29, 13, 30, 31, 32, 33, 34, 35, 49, 50, 51, 52, 53, 54, 55, 56, 57, 58, 59, 60] (by decide +kernel) (by decide +kernel)
set_option maxRecDepth 20000 in
theorem gX2_init_X1_init_n27 : GoodIn wsX2_init (wsX1_init) := ggX2_init_X1_init
set_option maxRecDepth 20000 in
theorem ggX2_init_X0_init : GoodIn wsX2_init wsX0_init := goodIn_r _ [37, 38, 2, 3, 13, 39, 61, 62, 63, 64, 65, 66, 67, 68, 69, 70] (by decide +kernel) (by decide +kernel)
set_option maxRecDepth 20000 in
theorem gX2_init_X0_init_n43 : GoodIn wsX2_init (wsX0_init) := ggX2_init_X0_init
theorem dX2_init_0 : decode cX2_init 0 = .ok (.aload_n 0, 1) := by decide +kernel
theorem dX2_init_1 : decode cX2_init 1 = .ok (.invokespecial 3, 3) := by decide +kernel
theorem dX2_init_4 : decode cX2_init 4 = .ok (.aload_n 0, 1) := by decide +kernel
theorem dX2_init_5 : decode cX2_init 5 = .ok (.bipush 8, 2) := by decide +kernel
theorem dX2_init_7 : decode cX2_init 7 = .ok (.anewarray 9, 3) := by decide +kernel
theorem dX2_init_10 : decode cX2_init 10 = .ok (.putfield 11, 3) := by decide +kernel
theorem dX2_init_13 : decode cX2_init 13 = .ok (.aload_n 0, 1) := by decide +kernel
theorem dX2_init_14 : decode cX2_init 14 = .ok (.sipush 600, 3) := by decide +kernel
theorem dX2_init_17 : decode cX2_init 17 = .ok (.putfield 15, 3) := by decide +kernel
theorem dX2_init_20 : decode cX2_init 20 = .ok (.aload_n 0, 1) := by decide +kernel
theorem dX2_init_21 : decode cX2_init 21 = .ok (.iconst 1, 1) := by decide +kernel
theorem dX2_init_22 : decode cX2_init 22 = .ok (.putfield 19, 3) := by decide +kernel
theorem dX2_init_25 : decode cX2_init 25 = .ok (.aload_n 0, 1) := by decide +kernel
theorem dX2_init_26 : decode cX2_init 26 = .ok (.bipush 40, 2) := by decide +kernel
theorem dX2_init_28 : decode cX2_init 28 = .ok (.putfield 22, 3) := by decide +kernel
theorem dX2_init_31 : decode cX2_init 31 = .ok (.aload_n 0, 1) := by decide +kernel
theorem dX2_init_32 : decode cX2_init 32 = .ok (.new 25, 3) := by decide +kernel
theorem dX2_init_35 : decode cX2_init 35 = .ok (.dup, 1) := by decide +kernel
theorem dX2_init_36 : decode cX2_init 36 = .ok (.invokespecial 27, 3) := by decide +kernel
theorem dX2_init_39 : decode cX2_init 39 = .ok (.putfield 28, 3) := by decide +kernel
theorem dX2_init_42 : decode cX2_init 42 = .ok (.aload_n 0, 1) := by decide +kernel
theorem dX2_init_43 : decode cX2_init 43 = .ok (.bipush 8, 2) := by decide +kernel
theorem dX2_init_45 : decode cX2_init 45 = .ok (.newarray .int, 2) := by decide +kernel
theorem dX2_init_47 : decode cX2_init 47 = .ok (.putfield 32, 3) := by decide +kernel
theorem dX2_init_50 : decode cX2_init 50 = .ok (.aload_n 0, 1) := by decide +kernel
theorem dX2_init_51 : decode cX2_init 51 = .ok (.bipush 8, 2) := by decide +kernel
theorem dX2_init_53 : decode cX2_init 53 = .ok (.newarray .long, 2) := by decide +kernel
theorem dX2_init_55 : decode cX2_init 55 = .ok (.putfield 36, 3) := by decide +kernel
theorem dX2_init_58 : decode cX2_init 58 = .ok (.aload_n 0, 1) := by decide +kernel
theorem dX2_init_59 : decode cX2_init 59 = .ok (.bipush 8, 2) := by decide +kernel
theorem dX2_init_61 : decode cX2_init 61 = .ok (.newarray .int, 2) := by decide +kernel
theorem dX2_init_63 : decode cX2_init 63 = .ok (.putfield 40, 3) := by decide +kernel
theorem dX2_init_66 : decode cX2_init 66 = .ok (.iconst 0, 1) := by decide +kernel
theorem dX2_init_67 : decode cX2_init 67 = .ok (.istore_n 1, 1) := by decide +kernel
theorem dX2_init_68 : decode cX2_init 68 = .ok (.iload_n 1, 1) := by decide +kernel
theorem dX2_init_69 : decode cX2_init 69 = .ok (.bipush 8, 2) := by decide +kernel
theorem dX2_init_71 : decode cX2_init 71 = .ok (.if_icmp .ge 22, 3) := by decide +kernel
theorem dX2_init_74 : decode cX2_init 74 = .ok (.aload_n 0, 1) := by decide +kernel
theorem dX2_init_75 : decode cX2_init 75 = .ok (.getfield 11, 3) := by decide +kernel
theorem dX2_init_78 : decode cX2_init 78 = .ok (.iload_n 1, 1) := by decide +kernel
theorem dX2_init_79 : decode cX2_init 79 = .ok (.new 9, 3) := by decide +kernel
theorem dX2_init_82 : decode cX2_init 82 = .ok (.dup, 1) := by decide +kernel
theorem dX2_init_83 : decode cX2_init 83 = .ok (.invokespecial 43, 3) := by decide +kernel
theorem dX2_init_86 : decode cX2_init 86 = .ok (.aastore, 1) := by decide +kernel
theorem dX2_init_87 : decode cX2_init 87 = .ok (.iinc 1 1, 3) := by decide +kernel
theorem dX2_init_90 : decode cX2_init 90 = .ok (.goto (-22), 3) := by decide +kernel
theorem dX2_init_93 : decode cX2_init 93 = .ok (.return_, 1) := by decide +kernel
set_option maxRecDepth 20000 in
theorem ggX2_bond_X2_within : GoodIn wsX2_bond wsX2_within := goodIn_r _ [7] (by decide +kernel) (by decide +kernel)
set_option maxRecDepth 20000 in
theorem gX2_bond_X2_within : GoodIn wsX2_bond (va_wsS RX2 47 yX2_within wsX2_within) := goodIn_app (goodIn_of _ (by decide +kernel)) ggX2_bond_X2_within
set_option maxRecDepth 20000 in
theorem ggX2_bond_X2_canBe : GoodIn wsX2_bond wsX2_canBe := goodIn_r _ [10, 4, 5, 6, 7] (by decide +kernel) (by decide +kernel)
set_option maxRecDepth 20000 in
theorem gX2_bond_X2_canBe : GoodIn wsX2_bond (va_wsS RX2 51 yX2_canBe wsX2_canBe) := goodIn_app (goodIn_of _ (by decide +kernel)) ggX2_bond_X2_canBe
set_option maxRecDepth 20000 in
theorem ggX2_bond_X0_become : GoodIn wsX2_bond wsX0_become := goodIn_r _ [15, 16, 17, 18, 19, 20, 21, 22, 23, 24, 25, 26, 14, 27, 28, 29, 30, 31, 32, 33, 34, 35, 36, 37, 38, 39, 40, 41, 42, 65, 66, 67, 68, 69, 70, 71, 72, 73, 74] (by decide +kernel) (by decide +kernel)
set_option maxRecDepth 20000 in
theorem gX2_bond_X0_become : GoodIn wsX2_bond (wsV RX2 55 RX0 yX0_become wsX0_become) := goodIn_app (goodIn_of _ (by decide +kernel)) ggX2_bond_X0_become
set_option maxRecDepth 20000 in
theorem ggX2_bond_X0_factorBy : GoodIn wsX2_bond wsX0_factorBy := goodIn_r _ [46, 47, 48, 49, 50, 14, 51, 23, 5, 6, 7, 52, 53, 54, 55, 18, 29, 30, 65, 66, 67, 68, 69, 70, 71, 72, 73, 74] (by decide +kernel) (by decide +kernel)
set_option maxRecDepth 20000 in
theorem gX2_bond_X0_factorBy : GoodIn wsX2_bond (wsV RX2 59 RX0 yX0_factorBy wsX0_factorBy) := goodIn_app (goodIn_of _ (by decide +kernel)) ggX2_bond_X0_factorBy
theorem dX2_bond_0 : decode cX2_bond 0 = .ok (.aload_n 0, 1) := by decide +kernel
theorem dX2_bond_1 : decode cX2_bond 1 = .ok (.getfield 44, 3) := by decide +kernel
theorem dX2_bond_4 : decode cX2_bond 4 = .ok (.bipush 8, 2) := by decide +kernel
theorem dX2_bond_6 : decode cX2_bond 6 = .ok (.if_icmp .ge 28, 3) := by decide +kernel
theorem dX2_bond_9 : decode cX2_bond 9 = .ok (.iload 5, 2) := by decide +kernel
theorem dX2_bond_11 : decode cX2_bond 11 = .ok (.sipush (-200), 3) := by decide +kernel
theorem dX2_bond_14 : decode cX2_bond 14 = .ok (.sipush 200, 3) := by decide +kernel
theorem dX2_bond_17 : decode cX2_bond 17 = .ok (.invokestatic 47, 3) := by decide +kernel
theorem dX2_bond_20 : decode cX2_bond 20 = .ok (.ifCond .eq 14, 3) := by decide +kernel
theorem dX2_bond_23 : decode cX2_bond 23 = .ok (.iload_n 1, 1) := by decide +kernel
theorem dX2_bond_24 : decode cX2_bond 24 = .ok (.iload_n 2, 1) := by decide +kernel
theorem dX2_bond_25 : decode cX2_bond 25 = .ok (.iload_n 3, 1) := by decide +kernel
theorem dX2_bond_26 : decode cX2_bond 26 = .ok (.iload 4, 2) := by decide +kernel
theorem dX2_bond_28 : decode cX2_bond 28 = .ok (.invokestatic 51, 3) := by decide +kernel
theorem dX2_bond_31 : decode cX2_bond 31 = .ok (.ifCond .ne 5, 3) := by decide +kernel
theorem dX2_bond_34 : decode cX2_bond 34 = .ok (.iconst (-1), 1) := by decide +kernel
theorem dX2_bond_35 : decode cX2_bond 35 = .ok (.ireturn, 1) := by decide +kernel
theorem dX2_bond_36 : decode cX2_bond 36 = .ok (.aload_n 0, 1) := by decide +kernel
theorem dX2_bond_37 : decode cX2_bond 37 = .ok (.getfield 11, 3) := by decide +kernel
theorem dX2_bond_40 : decode cX2_bond 40 = .ok (.aload_n 0, 1) := by decide +kernel
theorem dX2_bond_41 : decode cX2_bond 41 = .ok (.getfield 44, 3) := by decide +kernel
theorem dX2_bond_44 : decode cX2_bond 44 = .ok (.aaload, 1) := by decide +kernel
theorem dX2_bond_45 : decode cX2_bond 45 = .ok (.astore 6, 2) := by decide +kernel
theorem dX2_bond_47 : decode cX2_bond 47 = .ok (.aload 6, 2) := by decide +kernel
theorem dX2_bond_49 : decode cX2_bond 49 = .ok (.iload_n 1, 1) := by decide +kernel
theorem dX2_bond_50 : decode cX2_bond 50 = .ok (.iload_n 2, 1) := by decide +kernel
theorem dX2_bond_51 : decode cX2_bond 51 = .ok (.iload_n 3, 1) := by decide +kernel
theorem dX2_bond_52 : decode cX2_bond 52 = .ok (.iload 4, 2) := by decide +kernel
theorem dX2_bond_54 : decode cX2_bond 54 = .ok (.iload 5, 2) := by decide +kernel
theorem dX2_bond_56 : decode cX2_bond 56 = .ok (.invokevirtual 55, 3) := by decide +kernel
theorem dX2_bond_59 : decode cX2_bond 59 = .ok (.aload 6, 2) := by decide +kernel
theorem dX2_bond_61 : decode cX2_bond 61 = .ok (.aload_n 0, 1) := by decide +kernel
theorem dX2_bond_62 : decode cX2_bond 62 = .ok (.getfield 15, 3) := by decide +kernel
theorem dX2_bond_65 : decode cX2_bond 65 = .ok (.invokevirtual 59, 3) := by decide +kernel
theorem dX2_bond_68 : decode cX2_bond 68 = .ok (.aload_n 0, 1) := by decide +kernel
theorem dX2_bond_69 : decode cX2_bond 69 = .ok (.dup, 1) := by decide +kernel
theorem dX2_bond_70 : decode cX2_bond 70 = .ok (.getfield 44, 3) := by decide +kernel
theorem dX2_bond_73 : decode cX2_bond 73 = .ok (.iconst 1, 1) := by decide +kernel
theorem dX2_bond_74 : decode cX2_bond 74 = .ok (.iadd, 1) := by decide +kernel
theorem dX2_bond_75 : decode cX2_bond 75 = .ok (.putfield 44, 3) := by decide +kernel
theorem dX2_bond_78 : decode cX2_bond 78 = .ok (.aload_n 0, 1) := by decide +kernel
theorem dX2_bond_79 : decode cX2_bond 79 = .ok (.getfield 44, 3) := by decide +kernel
theorem dX2_bond_82 : decode cX2_bond 82 = .ok (.iconst 1, 1) := by decide +kernel
theorem dX2_bond_83 : decode cX2_bond 83 = .ok (.isub, 1) := by decide +kernel
theorem dX2_bond_84 : decode cX2_bond 84 = .ok (.ireturn, 1) := by decide +kernel
set_option maxRecDepth 20000 in
theorem ggX2_drop_X2_has : GoodIn wsX2_drop wsX2_has := goodIn_r _ [7, 2, 8, 9, 6, 10, 11, 12, 13, 14, 15, 16, 17, 18, 19] (by decide +kernel) (by decide +kernel)
set_option maxRecDepth 20000 in
theorem gX2_drop_X2_has : GoodIn wsX2_drop (wsV RX2 63 RX2 yX2_has wsX2_has) := goodIn_app (goodIn_of _ (by decide +kernel)) ggX2_drop_X2_has
theorem dX2_drop_0 : decode cX2_drop 0 = .ok (.aload_n 0, 1) := by decide +kernel
theorem dX2_drop_1 : decode cX2_drop 1 = .ok (.iload_n 1, 1) := by decide +kernel
theorem dX2_drop_2 : decode cX2_drop 2 = .ok (.invokevirtual 63, 3) := by decide +kernel
theorem dX2_drop_5 : decode cX2_drop 5 = .ok (.ifCond .ne 5, 3) := by decide +kernel
theorem dX2_drop_8 : decode cX2_drop 8 = .ok (.iconst (-1), 1) := by decide +kernel
theorem dX2_drop_9 : decode cX2_drop 9 = .ok (.ireturn, 1) := by decide +kernel
theorem dX2_drop_10 : decode cX2_drop 10 = .ok (.aload_n 0, 1) := by decide +kernel
theorem dX2_drop_11 : decode cX2_drop 11 = .ok (.getfield 11, 3) := by decide +kernel
theorem dX2_drop_14 : decode cX2_drop 14 = .ok (.iload_n 1, 1) := by decide +kernel
theorem dX2_drop_15 : decode cX2_drop 15 = .ok (.aaload, 1) := by decide +kernel
theorem dX2_drop_16 : decode cX2_drop 16 = .ok (.astore_n 2, 1) := by decide +kernel
theorem dX2_drop_17 : decode cX2_drop 17 = .ok (.iload_n 1, 1) := by decide +kernel
theorem dX2_drop_18 : decode cX2_drop 18 = .ok (.istore_n 3, 1) := by decide +kernel
theorem dX2_drop_19 : decode cX2_drop 19 = .ok (.iload_n 3, 1) := by decide +kernel
theorem dX2_drop_20 : decode cX2_drop 20 = .ok (.iconst 1, 1) := by decide +kernel
theorem dX2_drop_21 : decode cX2_drop 21 = .ok (.iadd, 1) := by decide +kernel
theorem dX2_drop_22 : decode cX2_drop 22 = .ok (.aload_n 0, 1) := by decide +kernel
theorem dX2_drop_23 : decode cX2_drop 23 = .ok (.getfield 44, 3) := by decide +kernel
theorem dX2_drop_26 : decode cX2_drop 26 = .ok (.if_icmp .ge 23, 3) := by decide +kernel
theorem dX2_drop_29 : decode cX2_drop 29 = .ok (.aload_n 0, 1) := by decide +kernel
theorem dX2_drop_30 : decode cX2_drop 30 = .ok (.getfield 11, 3) := by decide +kernel
theorem dX2_drop_33 : decode cX2_drop 33 = .ok (.iload_n 3, 1) := by decide +kernel
theorem dX2_drop_34 : decode cX2_drop 34 = .ok (.aload_n 0, 1) := by decide +kernel
theorem dX2_drop_35 : decode cX2_drop 35 = .ok (.getfield 11, 3) := by decide +kernel
theorem dX2_drop_38 : decode cX2_drop 38 = .ok (.iload_n 3, 1) := by decide +kernel
theorem dX2_drop_39 : decode cX2_drop 39 = .ok (.iconst 1, 1) := by decide +kernel
theorem dX2_drop_40 : decode cX2_drop 40 = .ok (.iadd, 1) := by decide +kernel
theorem dX2_drop_41 : decode cX2_drop 41 = .ok (.aaload, 1) := by decide +kernel
theorem dX2_drop_42 : decode cX2_drop 42 = .ok (.aastore, 1) := by decide +kernel
theorem dX2_drop_43 : decode cX2_drop 43 = .ok (.iinc 3 1, 3) := by decide +kernel
theorem dX2_drop_46 : decode cX2_drop 46 = .ok (.goto (-27), 3) := by decide +kernel
theorem dX2_drop_49 : decode cX2_drop 49 = .ok (.aload_n 0, 1) := by decide +kernel
theorem dX2_drop_50 : decode cX2_drop 50 = .ok (.dup, 1) := by decide +kernel
theorem dX2_drop_51 : decode cX2_drop 51 = .ok (.getfield 44, 3) := by decide +kernel
theorem dX2_drop_54 : decode cX2_drop 54 = .ok (.iconst 1, 1) := by decide +kernel
theorem dX2_drop_55 : decode cX2_drop 55 = .ok (.isub, 1) := by decide +kernel
theorem dX2_drop_56 : decode cX2_drop 56 = .ok (.putfield 44, 3) := by decide +kernel
theorem dX2_drop_59 : decode cX2_drop 59 = .ok (.aload_n 0, 1) := by decide +kernel
theorem dX2_drop_60 : decode cX2_drop 60 = .ok (.getfield 11, 3) := by decide +kernel
theorem dX2_drop_63 : decode cX2_drop 63 = .ok (.aload_n 0, 1) := by decide +kernel
theorem dX2_drop_64 : decode cX2_drop 64 = .ok (.getfield 44, 3) := by decide +kernel
theorem dX2_drop_67 : decode cX2_drop 67 = .ok (.aload_n 2, 1) := by decide +kernel
theorem dX2_drop_68 : decode cX2_drop 68 = .ok (.aastore, 1) := by decide +kernel
theorem dX2_drop_69 : decode cX2_drop 69 = .ok (.aload_n 0, 1) := by decide +kernel
theorem dX2_drop_70 : decode cX2_drop 70 = .ok (.getfield 44, 3) := by decide +kernel
theorem dX2_drop_73 : decode cX2_drop 73 = .ok (.ireturn, 1) := by decide +kernel
set_option maxRecDepth 20000 in
theorem ggX2_alter_X2_has : GoodIn wsX2_alter wsX2_has := goodIn_r _ [6, 7, 8, 9, 5, 10, 27, 28, 29, 30, 31, 32, 33, 34, 35] (by decide +kernel) (by decide +kernel)
set_option maxRecDepth 20000 in
theorem gX2_alter_X2_has : GoodIn wsX2_alter (wsV RX2 63 RX2 yX2_has wsX2_has) := goodIn_app (goodIn_of _ (by decide +kernel)) ggX2_alter_X2_has
set_option maxRecDepth 20000 in
theorem ggX2_alter_X0_changeSpread : GoodIn wsX2_alter wsX0_changeSpread := goodIn_r _ [15, 16, 9, 5, 10, 36, 37, 38, 39, 40, 41, 42, 43, 44, 45] (by decide +kernel) (by decide +kernel)
set_option maxRecDepth 20000 in
theorem gX2_alter_X0_changeSpread : GoodIn wsX2_alter (wsV RX2 67 RX0 yX0_changeSpread wsX0_changeSpread) := goodIn_app (goodIn_of _ (by decide +kernel)) ggX2_alter_X0_changeSpread
set_option maxRecDepth 20000 in
theorem ggX2_alter_X0_changeStock : GoodIn wsX2_alter wsX0_changeStock := goodIn_r _ [20, 21, 9, 5, 10, 36, 37, 38, 39, 40, 41, 42, 43, 44, 45] (by decide +kernel) (by decide +kernel)
set_option maxRecDepth 20000 in
theorem gX2_alter_X0_changeStock : GoodIn wsX2_alter (wsV RX2 70 RX0 yX0_changeStock wsX0_changeStock) := goodIn_app (goodIn_of _ (by decide +kernel)) ggX2_alter_X0_changeStock
set_option maxRecDepth 20000 in
theorem ggX2_alter_X0_changeBarred : GoodIn wsX2_alter wsX0_changeBarred := goodIn_r _ [25, 26, 9, 5, 10, 36, 37, 38, 39, 40, 41, 42, 43, 44, 45] (by decide +kernel) (by decide +kernel)
set_option maxRecDepth 20000 in
theorem gX2_alter_X0_changeBarred : GoodIn wsX2_alter (wsV RX2 73 RX0 yX0_changeBarred wsX0_changeBarred) := goodIn_app (goodIn_of _ (by decide +kernel)) ggX2_alter_X0_changeBarred
theorem dX2_alter_0 : decode cX2_alter 0 = .ok (.aload_n 0, 1) := by decide +kernel
theorem dX2_alter_1 : decode cX2_alter 1 = .ok (.iload_n 1, 1) := by decide +kernel
theorem dX2_alter_2 : decode cX2_alter 2 = .ok (.invokevirtual 63, 3) := by decide +kernel
theorem dX2_alter_5 : decode cX2_alter 5 = .ok (.ifCond .ne 5, 3) := by decide +kernel
theorem dX2_alter_8 : decode cX2_alter 8 = .ok (.iconst 0, 1) := by decide +kernel
theorem dX2_alter_9 : decode cX2_alter 9 = .ok (.ireturn, 1) := by decide +kernel
theorem dX2_alter_10 : decode cX2_alter 10 = .ok (.aload_n 0, 1) := by decide +kernel
theorem dX2_alter_11 : decode cX2_alter 11 = .ok (.getfield 11, 3) := by decide +kernel
theorem dX2_alter_14 : decode cX2_alter 14 = .ok (.iload_n 1, 1) := by decide +kernel
theorem dX2_alter_15 : decode cX2_alter 15 = .ok (.aaload, 1) := by decide +kernel
theorem dX2_alter_16 : decode cX2_alter 16 = .ok (.astore 4, 2) := by decide +kernel
theorem dX2_alter_18 : decode cX2_alter 18 = .ok (.iload_n 2, 1) := by decide +kernel
theorem dX2_alter_19 : decode cX2_alter 19 = .ok (.tableswitch 46 0 2 #[25, 32, 39], 25) := by decide +kernel
theorem dX2_alter_44 : decode cX2_alter 44 = .ok (.aload 4, 2) := by decide +kernel
theorem dX2_alter_46 : decode cX2_alter 46 = .ok (.iload_n 3, 1) := by decide +kernel
theorem dX2_alter_47 : decode cX2_alter 47 = .ok (.invokevirtual 67, 3) := by decide +kernel
theorem dX2_alter_50 : decode cX2_alter 50 = .ok (.ireturn, 1) := by decide +kernel
theorem dX2_alter_51 : decode cX2_alter 51 = .ok (.aload 4, 2) := by decide +kernel
theorem dX2_alter_53 : decode cX2_alter 53 = .ok (.iload_n 3, 1) := by decide +kernel
theorem dX2_alter_54 : decode cX2_alter 54 = .ok (.invokevirtual 70, 3) := by decide +kernel
theorem dX2_alter_57 : decode cX2_alter 57 = .ok (.ireturn, 1) := by decide +kernel
theorem dX2_alter_58 : decode cX2_alter 58 = .ok (.aload 4, 2) := by decide +kernel
theorem dX2_alter_60 : decode cX2_alter 60 = .ok (.iload_n 3, 1) := by decide +kernel
theorem dX2_alter_61 : decode cX2_alter 61 = .ok (.invokevirtual 73, 3) := by decide +kernel
theorem dX2_alter_64 : decode cX2_alter 64 = .ok (.ireturn, 1) := by decide +kernel
theorem dX2_alter_65 : decode cX2_alter 65 = .ok (.iconst 0, 1) := by decide +kernel
theorem dX2_alter_66 : decode cX2_alter 66 = .ok (.ireturn, 1) := by decide +kernel
set_option maxRecDepth 20000 in
theorem ggX2_of_X2_has : GoodIn wsX2_of wsX2_has := goodIn_r _ [16, 17, 18, 19, 15, 20, 27, 28, 29, 30, 31, 32, 33, 34, 35] (by decide +kernel) (by decide +kernel)
set_option maxRecDepth 20000 in
theorem gX2_of_X2_has : GoodIn wsX2_of (wsV RX2 63 RX2 yX2_has wsX2_has) := goodIn_app (goodIn_of _ (by decide +kernel)) ggX2_of_X2_has
set_option maxRecDepth 20000 in
theorem ggX2_of_X2_isEligible : GoodIn wsX2_of wsX2_isEligible := goodIn_r _ [24, 3, 10, 6, 25, 26, 11, 18, 19, 15, 20, 27, 28, 29, 30, 31, 32, 33, 34, 35, 36, 37, 38, 39, 40, 41, 42, 43, 44, 45] (by decide +kernel) (by decide +kernel)
set_option maxRecDepth 20000 in
theorem gX2_of_X2_isEligible : GoodIn wsX2_of (wsV RX2 107 RX2 yX2_isEligible wsX2_isEligible) := goodIn_app (goodIn_of _ (by decide +kernel)) ggX2_of_X2_isEligible
theorem dX2_of_0 : decode cX2_of 0 = .ok (.aload_n 0, 1) := by decide +kernel
theorem dX2_of_1 : decode cX2_of 1 = .ok (.iload_n 1, 1) := by decide +kernel
theorem dX2_of_2 : decode cX2_of 2 = .ok (.invokevirtual 63, 3) := by decide +kernel
theorem dX2_of_5 : decode cX2_of 5 = .ok (.ifCond .ne 13, 3) := by decide +kernel
theorem dX2_of_8 : decode cX2_of 8 = .ok (.new 76, 3) := by decide +kernel
theorem dX2_of_11 : decode cX2_of 11 = .ok (.dup, 1) := by decide +kernel
theorem dX2_of_12 : decode cX2_of 12 = .ok (.ldc 78, 2) := by decide +kernel
theorem dX2_of_14 : decode cX2_of 14 = .ok (.invokespecial 80, 3) := by decide +kernel
theorem dX2_of_17 : decode cX2_of 17 = .ok (.athrow, 1) := by decide +kernel
theorem dX2_of_18 : decode cX2_of 18 = .ok (.aload_n 0, 1) := by decide +kernel
theorem dX2_of_19 : decode cX2_of 19 = .ok (.getfield 11, 3) := by decide +kernel
theorem dX2_of_22 : decode cX2_of 22 = .ok (.iload_n 1, 1) := by decide +kernel
theorem dX2_of_23 : decode cX2_of 23 = .ok (.aaload, 1) := by decide +kernel
theorem dX2_of_24 : decode cX2_of 24 = .ok (.astore_n 3, 1) := by decide +kernel
theorem dX2_of_25 : decode cX2_of 25 = .ok (.iload_n 2, 1) := by decide +kernel
theorem dX2_of_26 : decode cX2_of 26 = .ok (.tableswitch 104 0 8 #[50, 55, 60, 65, 70, 75, 80, 85, 90], 50) := by decide +kernel
theorem dX2_of_76 : decode cX2_of 76 = .ok (.aload_n 3, 1) := by decide +kernel
theorem dX2_of_77 : decode cX2_of 77 = .ok (.getfield 83, 3) := by decide +kernel
theorem dX2_of_80 : decode cX2_of 80 = .ok (.ireturn, 1) := by decide +kernel
theorem dX2_of_81 : decode cX2_of 81 = .ok (.aload_n 3, 1) := by decide +kernel
theorem dX2_of_82 : decode cX2_of 82 = .ok (.getfield 86, 3) := by decide +kernel
theorem dX2_of_85 : decode cX2_of 85 = .ok (.ireturn, 1) := by decide +kernel
theorem dX2_of_86 : decode cX2_of 86 = .ok (.aload_n 3, 1) := by decide +kernel
theorem dX2_of_87 : decode cX2_of 87 = .ok (.getfield 89, 3) := by decide +kernel
theorem dX2_of_90 : decode cX2_of 90 = .ok (.ireturn, 1) := by decide +kernel
theorem dX2_of_91 : decode cX2_of 91 = .ok (.aload_n 3, 1) := by decide +kernel
theorem dX2_of_92 : decode cX2_of 92 = .ok (.getfield 92, 3) := by decide +kernel
theorem dX2_of_95 : decode cX2_of 95 = .ok (.ireturn, 1) := by decide +kernel
theorem dX2_of_96 : decode cX2_of 96 = .ok (.aload_n 3, 1) := by decide +kernel
theorem dX2_of_97 : decode cX2_of 97 = .ok (.getfield 95, 3) := by decide +kernel
theorem dX2_of_100 : decode cX2_of 100 = .ok (.ireturn, 1) := by decide +kernel
theorem dX2_of_101 : decode cX2_of 101 = .ok (.aload_n 3, 1) := by decide +kernel
theorem dX2_of_102 : decode cX2_of 102 = .ok (.getfield 98, 3) := by decide +kernel
theorem dX2_of_105 : decode cX2_of 105 = .ok (.ireturn, 1) := by decide +kernel
theorem dX2_of_106 : decode cX2_of 106 = .ok (.aload_n 3, 1) := by decide +kernel
theorem dX2_of_107 : decode cX2_of 107 = .ok (.getfield 101, 3) := by decide +kernel
theorem dX2_of_110 : decode cX2_of 110 = .ok (.ireturn, 1) := by decide +kernel
theorem dX2_of_111 : decode cX2_of 111 = .ok (.aload_n 3, 1) := by decide +kernel
theorem dX2_of_112 : decode cX2_of 112 = .ok (.getfield 104, 3) := by decide +kernel
theorem dX2_of_115 : decode cX2_of 115 = .ok (.ireturn, 1) := by decide +kernel
theorem dX2_of_116 : decode cX2_of 116 = .ok (.aload_n 0, 1) := by decide +kernel
theorem dX2_of_117 : decode cX2_of 117 = .ok (.iload_n 1, 1) := by decide +kernel
theorem dX2_of_118 : decode cX2_of 118 = .ok (.invokevirtual 107, 3) := by decide +kernel
theorem dX2_of_121 : decode cX2_of 121 = .ok (.ifCond .eq 7, 3) := by decide +kernel
theorem dX2_of_124 : decode cX2_of 124 = .ok (.iconst 1, 1) := by decide +kernel
theorem dX2_of_125 : decode cX2_of 125 = .ok (.goto 4, 3) := by decide +kernel
theorem dX2_of_128 : decode cX2_of 128 = .ok (.iconst 0, 1) := by decide +kernel
theorem dX2_of_129 : decode cX2_of 129 = .ok (.ireturn, 1) := by decide +kernel
theorem dX2_of_130 : decode cX2_of 130 = .ok (.new 76, 3) := by decide +kernel
theorem dX2_of_133 : decode cX2_of 133 = .ok (.dup, 1) := by decide +kernel
theorem dX2_of_134 : decode cX2_of 134 = .ok (.ldc 110, 2) := by decide +kernel
theorem dX2_of_136 : decode cX2_of 136 = .ok (.invokespecial 80, 3) := by decide +kernel
theorem dX2_of_139 : decode cX2_of 139 = .ok (.athrow, 1) := by decide +kernel
set_option maxRecDepth 20000 in
theorem ggX2_flow_X2_has : GoodIn wsX2_flow wsX2_has := goodIn_r _ [8, 9, 10, 11, 7, 12, 13, 14, 15, 16, 17, 18, 19, 20, 21] (by decide +kernel) (by decide +kernel)
set_option maxRecDepth 20000 in
theorem gX2_flow_X2_has : GoodIn wsX2_flow (wsV RX2 63 RX2 yX2_has wsX2_has) := goodIn_app (goodIn_of _ (by decide +kernel)) ggX2_flow_X2_has
set_option maxRecDepth 20000 in
theorem ggX2_flow_X2_within : GoodIn wsX2_flow wsX2_within := goodIn_r _ [12] (by decide +kernel) (by decide +kernel)
set_option maxRecDepth 20000 in
theorem gX2_flow_X2_within : GoodIn wsX2_flow (va_wsS RX2 47 yX2_within wsX2_within) := goodIn_app (goodIn_of _ (by decide +kernel)) ggX2_flow_X2_within
theorem dX2_flow_0 : decode cX2_flow 0 = .ok (.aload_n 0, 1) := by decide +kernel
theorem dX2_flow_1 : decode cX2_flow 1 = .ok (.iload_n 1, 1) := by decide +kernel
theorem dX2_flow_2 : decode cX2_flow 2 = .ok (.invokevirtual 63, 3) := by decide +kernel
theorem dX2_flow_5 : decode cX2_flow 5 = .ok (.ifCond .eq 20, 3) := by decide +kernel
theorem dX2_flow_8 : decode cX2_flow 8 = .ok (.iload_n 2, 1) := by decide +kernel
theorem dX2_flow_9 : decode cX2_flow 9 = .ok (.iconst 1, 1) := by decide +kernel
theorem dX2_flow_10 : decode cX2_flow 10 = .ok (.aload_n 0, 1) := by decide +kernel
theorem dX2_flow_11 : decode cX2_flow 11 = .ok (.getfield 11, 3) := by decide +kernel
theorem dX2_flow_14 : decode cX2_flow 14 = .ok (.iload_n 1, 1) := by decide +kernel
theorem dX2_flow_15 : decode cX2_flow 15 = .ok (.aaload, 1) := by decide +kernel
theorem dX2_flow_16 : decode cX2_flow 16 = .ok (.getfield 89, 3) := by decide +kernel
theorem dX2_flow_19 : decode cX2_flow 19 = .ok (.invokestatic 47, 3) := by decide +kernel
theorem dX2_flow_22 : decode cX2_flow 22 = .ok (.ifCond .ne 5, 3) := by decide +kernel
theorem dX2_flow_25 : decode cX2_flow 25 = .ok (.iconst (-1), 1) := by decide +kernel
theorem dX2_flow_26 : decode cX2_flow 26 = .ok (.ireturn, 1) := by decide +kernel
theorem dX2_flow_27 : decode cX2_flow 27 = .ok (.aload_n 0, 1) := by decide +kernel
theorem dX2_flow_28 : decode cX2_flow 28 = .ok (.getfield 11, 3) := by decide +kernel
theorem dX2_flow_31 : decode cX2_flow 31 = .ok (.iload_n 1, 1) := by decide +kernel
theorem dX2_flow_32 : decode cX2_flow 32 = .ok (.aaload, 1) := by decide +kernel
theorem dX2_flow_33 : decode cX2_flow 33 = .ok (.getfield 112, 3) := by decide +kernel
theorem dX2_flow_36 : decode cX2_flow 36 = .ok (.iload_n 2, 1) := by decide +kernel
theorem dX2_flow_37 : decode cX2_flow 37 = .ok (.iaload, 1) := by decide +kernel
theorem dX2_flow_38 : decode cX2_flow 38 = .ok (.ireturn, 1) := by decide +kernel
set_option maxRecDepth 20000 in
theorem ggX2_price_X2_has : GoodIn wsX2_price wsX2_has := goodIn_r _ [6, 7, 8, 9, 5, 10, 36, 37, 38, 39, 40, 41, 42, 43, 44] (by decide +kernel) (by decide +kernel)
set_option maxRecDepth 20000 in
theorem gX2_price_X2_has : GoodIn wsX2_price (wsV RX2 63 RX2 yX2_has wsX2_has) := goodIn_app (goodIn_of _ (by decide +kernel)) ggX2_price_X2_has
set_option maxRecDepth 20000 in
theorem ggX2_price_X2_isRate : GoodIn wsX2_price wsX2_isRate := goodIn_r _ [13, 8, 9, 5, 10] (by decide +kernel) (by decide +kernel)
set_option maxRecDepth 20000 in
theorem gX2_price_X2_isRate : GoodIn wsX2_price (va_wsS RX2 115 yX2_isRate wsX2_isRate) := goodIn_app (goodIn_of _ (by decide +kernel)) ggX2_price_X2_isRate
set_option maxRecDepth 20000 in
theorem ggX2_price_X0_priceAt : GoodIn wsX2_price wsX0_priceAt := goodIn_r _ [18, 19, 20, 21, 22, 23, 24, 25, 26, 17, 27, 28, 9, 5, 10, 29, 30, 31, 32, 33, 34, 35, 45, 46, 47, 48, 49, 50, 51, 52, 53, 54] (by decide +kernel) (by decide +kernel)
set_option maxRecDepth 20000 in
theorem gX2_price_X0_priceAt : GoodIn wsX2_price (wsV RX2 118 RX0 yX0_priceAt wsX0_priceAt) := goodIn_app (goodIn_of _ (by decide +kernel)) ggX2_price_X0_priceAt
theorem dX2_price_0 : decode cX2_price 0 = .ok (.aload_n 0, 1) := by decide +kernel
theorem dX2_price_1 : decode cX2_price 1 = .ok (.iload_n 1, 1) := by decide +kernel
theorem dX2_price_2 : decode cX2_price 2 = .ok (.invokevirtual 63, 3) := by decide +kernel
theorem dX2_price_5 : decode cX2_price 5 = .ok (.ifCond .eq 10, 3) := by decide +kernel
theorem dX2_price_8 : decode cX2_price 8 = .ok (.iload_n 2, 1) := by decide +kernel
theorem dX2_price_9 : decode cX2_price 9 = .ok (.invokestatic 115, 3) := by decide +kernel
theorem dX2_price_12 : decode cX2_price 12 = .ok (.ifCond .ne 5, 3) := by decide +kernel
theorem dX2_price_15 : decode cX2_price 15 = .ok (.iconst (-1), 1) := by decide +kernel
theorem dX2_price_16 : decode cX2_price 16 = .ok (.ireturn, 1) := by decide +kernel
theorem dX2_price_17 : decode cX2_price 17 = .ok (.aload_n 0, 1) := by decide +kernel
theorem dX2_price_18 : decode cX2_price 18 = .ok (.getfield 11, 3) := by decide +kernel
theorem dX2_price_21 : decode cX2_price 21 = .ok (.iload_n 1, 1) := by decide +kernel
theorem dX2_price_22 : decode cX2_price 22 = .ok (.aaload, 1) := by decide +kernel
theorem dX2_price_23 : decode cX2_price 23 = .ok (.iload_n 2, 1) := by decide +kernel
theorem dX2_price_24 : decode cX2_price 24 = .ok (.invokevirtual 118, 3) := by decide +kernel
theorem dX2_price_27 : decode cX2_price 27 = .ok (.ireturn, 1) := by decide +kernel
set_option maxRecDepth 20000 in
theorem ggX2_rateOf_X2_has : GoodIn wsX2_rateOf wsX2_has := goodIn_r _ [6, 7, 8, 9, 5, 10, 33, 34, 35, 36, 37, 38, 39, 40, 41] (by decide +kernel) (by decide +kernel)
set_option maxRecDepth 20000 in
theorem gX2_rateOf_X2_has : GoodIn wsX2_rateOf (wsV RX2 63 RX2 yX2_has wsX2_has) := goodIn_app (goodIn_of _ (by decide +kernel)) ggX2_rateOf_X2_has
set_option maxRecDepth 20000 in
theorem ggX2_rateOf_X0_priceAt : GoodIn wsX2_rateOf wsX0_priceAt := goodIn_r _ [15, 16, 17, 18, 19, 20, 21, 22, 23, 14, 24, 25, 9, 5, 10, 26, 27, 28, 29, 30, 31, 32, 42, 43, 44, 45, 46, 47, 48, 49, 50, 51] (by decide +kernel) (by decide +kernel)
set_option maxRecDepth 20000 in
theorem gX2_rateOf_X0_priceAt : GoodIn wsX2_rateOf (wsV RX2 118 RX0 yX0_priceAt wsX0_priceAt) := goodIn_app (goodIn_of _ (by decide +kernel)) ggX2_rateOf_X0_priceAt
theorem dX2_rateOf_0 : decode cX2_rateOf 0 = .ok (.aload_n 0, 1) := by decide +kernel
theorem dX2_rateOf_1 : decode cX2_rateOf 1 = .ok (.iload_n 1, 1) := by decide +kernel
theorem dX2_rateOf_2 : decode cX2_rateOf 2 = .ok (.invokevirtual 63, 3) := by decide +kernel
theorem dX2_rateOf_5 : decode cX2_rateOf 5 = .ok (.ifCond .ne 5, 3) := by decide +kernel
theorem dX2_rateOf_8 : decode cX2_rateOf 8 = .ok (.iconst (-1), 1) := by decide +kernel
theorem dX2_rateOf_9 : decode cX2_rateOf 9 = .ok (.ireturn, 1) := by decide +kernel
theorem dX2_rateOf_10 : decode cX2_rateOf 10 = .ok (.iconst (-1), 1) := by decide +kernel
theorem dX2_rateOf_11 : decode cX2_rateOf 11 = .ok (.istore_n 3, 1) := by decide +kernel
theorem dX2_rateOf_12 : decode cX2_rateOf 12 = .ok (.sipush 2048, 3) := by decide +kernel
theorem dX2_rateOf_15 : decode cX2_rateOf 15 = .ok (.istore 4, 2) := by decide +kernel
theorem dX2_rateOf_17 : decode cX2_rateOf 17 = .ok (.iload 4, 2) := by decide +kernel
theorem dX2_rateOf_19 : decode cX2_rateOf 19 = .ok (.ifCond .le 44, 3) := by decide +kernel
theorem dX2_rateOf_22 : decode cX2_rateOf 22 = .ok (.iload_n 3, 1) := by decide +kernel
theorem dX2_rateOf_23 : decode cX2_rateOf 23 = .ok (.iload 4, 2) := by decide +kernel
theorem dX2_rateOf_25 : decode cX2_rateOf 25 = .ok (.iadd, 1) := by decide +kernel
theorem dX2_rateOf_26 : decode cX2_rateOf 26 = .ok (.sipush 3000, 3) := by decide +kernel
theorem dX2_rateOf_29 : decode cX2_rateOf 29 = .ok (.if_icmp .gt 25, 3) := by decide +kernel
theorem dX2_rateOf_32 : decode cX2_rateOf 32 = .ok (.aload_n 0, 1) := by decide +kernel
theorem dX2_rateOf_33 : decode cX2_rateOf 33 = .ok (.getfield 11, 3) := by decide +kernel
theorem dX2_rateOf_36 : decode cX2_rateOf 36 = .ok (.iload_n 1, 1) := by decide +kernel
theorem dX2_rateOf_37 : decode cX2_rateOf 37 = .ok (.aaload, 1) := by decide +kernel
theorem dX2_rateOf_38 : decode cX2_rateOf 38 = .ok (.iload_n 3, 1) := by decide +kernel
theorem dX2_rateOf_39 : decode cX2_rateOf 39 = .ok (.iload 4, 2) := by decide +kernel
theorem dX2_rateOf_41 : decode cX2_rateOf 41 = .ok (.iadd, 1) := by decide +kernel
theorem dX2_rateOf_42 : decode cX2_rateOf 42 = .ok (.invokevirtual 118, 3) := by decide +kernel
theorem dX2_rateOf_45 : decode cX2_rateOf 45 = .ok (.iload_n 2, 1) := by decide +kernel
theorem dX2_rateOf_46 : decode cX2_rateOf 46 = .ok (.if_icmp .le 8, 3) := by decide +kernel
theorem dX2_rateOf_49 : decode cX2_rateOf 49 = .ok (.iload_n 3, 1) := by decide +kernel
theorem dX2_rateOf_50 : decode cX2_rateOf 50 = .ok (.iload 4, 2) := by decide +kernel
theorem dX2_rateOf_52 : decode cX2_rateOf 52 = .ok (.iadd, 1) := by decide +kernel
theorem dX2_rateOf_53 : decode cX2_rateOf 53 = .ok (.istore_n 3, 1) := by decide +kernel
theorem dX2_rateOf_54 : decode cX2_rateOf 54 = .ok (.iload 4, 2) := by decide +kernel
theorem dX2_rateOf_56 : decode cX2_rateOf 56 = .ok (.iconst 2, 1) := by decide +kernel
theorem dX2_rateOf_57 : decode cX2_rateOf 57 = .ok (.idiv, 1) := by decide +kernel
theorem dX2_rateOf_58 : decode cX2_rateOf 58 = .ok (.istore 4, 2) := by decide +kernel
theorem dX2_rateOf_60 : decode cX2_rateOf 60 = .ok (.goto (-43), 3) := by decide +kernel
theorem dX2_rateOf_63 : decode cX2_rateOf 63 = .ok (.iload_n 3, 1) := by decide +kernel
theorem dX2_rateOf_64 : decode cX2_rateOf 64 = .ok (.sipush 3000, 3) := by decide +kernel
theorem dX2_rateOf_67 : decode cX2_rateOf 67 = .ok (.if_icmp .ne 7, 3) := by decide +kernel
theorem dX2_rateOf_70 : decode cX2_rateOf 70 = .ok (.iconst (-1), 1) := by decide +kernel
theorem dX2_rateOf_71 : decode cX2_rateOf 71 = .ok (.goto 6, 3) := by decide +kernel
theorem dX2_rateOf_74 : decode cX2_rateOf 74 = .ok (.iload_n 3, 1) := by decide +kernel
theorem dX2_rateOf_75 : decode cX2_rateOf 75 = .ok (.iconst 1, 1) := by decide +kernel
theorem dX2_rateOf_76 : decode cX2_rateOf 76 = .ok (.iadd, 1) := by decide +kernel
theorem dX2_rateOf_77 : decode cX2_rateOf 77 = .ok (.ireturn, 1) := by decide +kernel
set_option maxRecDepth 20000 in
theorem ggX2_contract_X2_isRate : GoodIn wsX2_contract wsX2_isRate := goodIn_r _ [9, 10, 11, 8, 12] (by decide +kernel) (by decide +kernel)
set_option maxRecDepth 20000 in
theorem gX2_contract_X2_isRate : GoodIn wsX2_contract (va_wsS RX2 115 yX2_isRate wsX2_isRate) := goodIn_app (goodIn_of _ (by decide +kernel)) ggX2_contract_X2_isRate
set_option maxRecDepth 20000 in
theorem ggX2_contract_X0_factorBy : GoodIn wsX2_contract wsX0_factorBy := goodIn_r _ [17, 18, 19, 20, 21, 16, 22, 23, 11, 8, 12, 24, 25, 26, 27, 28, 29, 30, 40, 41, 42, 43, 44, 45, 46, 47, 48, 49] (by decide +kernel) (by decide +kernel)
set_option maxRecDepth 20000 in
theorem gX2_contract_X0_factorBy : GoodIn wsX2_contract (wsV RX2 59 RX0 yX0_factorBy wsX0_factorBy) := goodIn_app (goodIn_of _ (by decide +kernel)) ggX2_contract_X0_factorBy
theorem dX2_contract_0 : decode cX2_contract 0 = .ok (.iload_n 1, 1) := by decide +kernel
theorem dX2_contract_1 : decode cX2_contract 1 = .ok (.invokestatic 115, 3) := by decide +kernel
theorem dX2_contract_4 : decode cX2_contract 4 = .ok (.ifCond .eq 19, 3) := by decide +kernel
theorem dX2_contract_7 : decode cX2_contract 7 = .ok (.iload_n 2, 1) := by decide +kernel
theorem dX2_contract_8 : decode cX2_contract 8 = .ok (.iconst 1, 1) := by decide +kernel
theorem dX2_contract_9 : decode cX2_contract 9 = .ok (.if_icmp .lt 14, 3) := by decide +kernel
theorem dX2_contract_12 : decode cX2_contract 12 = .ok (.iload_n 3, 1) := by decide +kernel
theorem dX2_contract_13 : decode cX2_contract 13 = .ok (.bipush 40, 2) := by decide +kernel
theorem dX2_contract_15 : decode cX2_contract 15 = .ok (.if_icmp .gt 8, 3) := by decide +kernel
theorem dX2_contract_18 : decode cX2_contract 18 = .ok (.iload_n 2, 1) := by decide +kernel
theorem dX2_contract_19 : decode cX2_contract 19 = .ok (.iload_n 3, 1) := by decide +kernel
theorem dX2_contract_20 : decode cX2_contract 20 = .ok (.if_icmp .le 5, 3) := by decide +kernel
theorem dX2_contract_23 : decode cX2_contract 23 = .ok (.iconst 0, 1) := by decide +kernel
theorem dX2_contract_24 : decode cX2_contract 24 = .ok (.ireturn, 1) := by decide +kernel
theorem dX2_contract_25 : decode cX2_contract 25 = .ok (.iload_n 1, 1) := by decide +kernel
theorem dX2_contract_26 : decode cX2_contract 26 = .ok (.aload_n 0, 1) := by decide +kernel
theorem dX2_contract_27 : decode cX2_contract 27 = .ok (.getfield 15, 3) := by decide +kernel
theorem dX2_contract_30 : decode cX2_contract 30 = .ok (.if_icmp .ne 21, 3) := by decide +kernel
theorem dX2_contract_33 : decode cX2_contract 33 = .ok (.iload_n 2, 1) := by decide +kernel
theorem dX2_contract_34 : decode cX2_contract 34 = .ok (.aload_n 0, 1) := by decide +kernel
theorem dX2_contract_35 : decode cX2_contract 35 = .ok (.getfield 19, 3) := by decide +kernel
theorem dX2_contract_38 : decode cX2_contract 38 = .ok (.if_icmp .ne 13, 3) := by decide +kernel
theorem dX2_contract_41 : decode cX2_contract 41 = .ok (.iload_n 3, 1) := by decide +kernel
theorem dX2_contract_42 : decode cX2_contract 42 = .ok (.aload_n 0, 1) := by decide +kernel
theorem dX2_contract_43 : decode cX2_contract 43 = .ok (.getfield 22, 3) := by decide +kernel
theorem dX2_contract_46 : decode cX2_contract 46 = .ok (.if_icmp .ne 5, 3) := by decide +kernel
theorem dX2_contract_49 : decode cX2_contract 49 = .ok (.iconst 0, 1) := by decide +kernel
theorem dX2_contract_50 : decode cX2_contract 50 = .ok (.ireturn, 1) := by decide +kernel
theorem dX2_contract_51 : decode cX2_contract 51 = .ok (.aload_n 0, 1) := by decide +kernel
theorem dX2_contract_52 : decode cX2_contract 52 = .ok (.iload_n 1, 1) := by decide +kernel
theorem dX2_contract_53 : decode cX2_contract 53 = .ok (.putfield 15, 3) := by decide +kernel
theorem dX2_contract_56 : decode cX2_contract 56 = .ok (.aload_n 0, 1) := by decide +kernel
theorem dX2_contract_57 : decode cX2_contract 57 = .ok (.iload_n 2, 1) := by decide +kernel
theorem dX2_contract_58 : decode cX2_contract 58 = .ok (.putfield 19, 3) := by decide +kernel
theorem dX2_contract_61 : decode cX2_contract 61 = .ok (.aload_n 0, 1) := by decide +kernel
theorem dX2_contract_62 : decode cX2_contract 62 = .ok (.iload_n 3, 1) := by decide +kernel
theorem dX2_contract_63 : decode cX2_contract 63 = .ok (.putfield 22, 3) := by decide +kernel
theorem dX2_contract_66 : decode cX2_contract 66 = .ok (.iconst 0, 1) := by decide +kernel
theorem dX2_contract_67 : decode cX2_contract 67 = .ok (.istore 4, 2) := by decide +kernel
theorem dX2_contract_69 : decode cX2_contract 69 = .ok (.iload 4, 2) := by decide +kernel
theorem dX2_contract_71 : decode cX2_contract 71 = .ok (.aload_n 0, 1) := by decide +kernel
theorem dX2_contract_72 : decode cX2_contract 72 = .ok (.getfield 44, 3) := by decide +kernel
theorem dX2_contract_75 : decode cX2_contract 75 = .ok (.if_icmp .ge 20, 3) := by decide +kernel
theorem dX2_contract_78 : decode cX2_contract 78 = .ok (.aload_n 0, 1) := by decide +kernel
theorem dX2_contract_79 : decode cX2_contract 79 = .ok (.getfield 11, 3) := by decide +kernel
theorem dX2_contract_82 : decode cX2_contract 82 = .ok (.iload 4, 2) := by decide +kernel
theorem dX2_contract_84 : decode cX2_contract 84 = .ok (.aaload, 1) := by decide +kernel
theorem dX2_contract_85 : decode cX2_contract 85 = .ok (.iload_n 1, 1) := by decide +kernel
theorem dX2_contract_86 : decode cX2_contract 86 = .ok (.invokevirtual 59, 3) := by decide +kernel
theorem dX2_contract_89 : decode cX2_contract 89 = .ok (.iinc 4 1, 3) := by decide +kernel
theorem dX2_contract_92 : decode cX2_contract 92 = .ok (.goto (-23), 3) := by decide +kernel
theorem dX2_contract_95 : decode cX2_contract 95 = .ok (.iconst 1, 1) := by decide +kernel
theorem dX2_contract_96 : decode cX2_contract 96 = .ok (.ireturn, 1) := by decide +kernel
set_option maxRecDepth 20000 in
theorem ggX2_count_X2_eligibleBits : GoodIn wsX2_count wsX2_eligibleBits := goodIn_r _ [15, 1, 16, 17, 18, 14, 19, 20, 21, 22, 3, 4, 23, 24, 25, 26, 32, 33, 34, 35, 36, 37, 38, 39, 40, 53, 54, 55, 56, 57, 58, 59, 60, 61, 62] (by decide +kernel) (by decide +kernel)
set_option maxRecDepth 20000 in
theorem gX2_count_X2_eligibleBits : GoodIn wsX2_count (wsV RX2 122 RX2 yX2_eligibleBits wsX2_eligibleBits) := goodIn_app (goodIn_of _ (by decide +kernel)) ggX2_count_X2_eligibleBits
set_option maxRecDepth 20000 in
theorem ggX2_count_X2_eligibleStock : GoodIn wsX2_count wsX2_eligibleStock := goodIn_r _ [30, 1, 20, 31, 16, 17, 18, 14, 19, 21, 22, 3, 4, 23, 24, 25, 26, 32, 33, 34, 35, 36, 37, 38, 39, 40, 53, 54, 55, 56, 57, 58, 59, 60, 61, 62] (by decide +kernel) (by decide +kernel)
set_option maxRecDepth 20000 in
theorem gX2_count_X2_eligibleStock : GoodIn wsX2_count (wsV RX2 126 RX2 yX2_eligibleStock wsX2_eligibleStock) := goodIn_app (goodIn_of _ (by decide +kernel)) ggX2_count_X2_eligibleStock
theorem dX2_count_0 : decode cX2_count 0 = .ok (.iload_n 1, 1) := by decide +kernel
theorem dX2_count_1 : decode cX2_count 1 = .ok (.tableswitch 129 0 10 #[59, 64, 69, 74, 79, 84, 89, 97, 105, 113, 121], 59) := by decide +kernel
theorem dX2_count_60 : decode cX2_count 60 = .ok (.aload_n 0, 1) := by decide +kernel
theorem dX2_count_61 : decode cX2_count 61 = .ok (.getfield 44, 3) := by decide +kernel
theorem dX2_count_64 : decode cX2_count 64 = .ok (.ireturn, 1) := by decide +kernel
theorem dX2_count_65 : decode cX2_count 65 = .ok (.aload_n 0, 1) := by decide +kernel
theorem dX2_count_66 : decode cX2_count 66 = .ok (.invokevirtual 122, 3) := by decide +kernel
theorem dX2_count_69 : decode cX2_count 69 = .ok (.ireturn, 1) := by decide +kernel
theorem dX2_count_70 : decode cX2_count 70 = .ok (.aload_n 0, 1) := by decide +kernel
theorem dX2_count_71 : decode cX2_count 71 = .ok (.getfield 15, 3) := by decide +kernel
theorem dX2_count_74 : decode cX2_count 74 = .ok (.ireturn, 1) := by decide +kernel
theorem dX2_count_75 : decode cX2_count 75 = .ok (.aload_n 0, 1) := by decide +kernel
theorem dX2_count_76 : decode cX2_count 76 = .ok (.getfield 19, 3) := by decide +kernel
theorem dX2_count_79 : decode cX2_count 79 = .ok (.ireturn, 1) := by decide +kernel
theorem dX2_count_80 : decode cX2_count 80 = .ok (.aload_n 0, 1) := by decide +kernel
theorem dX2_count_81 : decode cX2_count 81 = .ok (.getfield 22, 3) := by decide +kernel
theorem dX2_count_84 : decode cX2_count 84 = .ok (.ireturn, 1) := by decide +kernel
theorem dX2_count_85 : decode cX2_count 85 = .ok (.aload_n 0, 1) := by decide +kernel
theorem dX2_count_86 : decode cX2_count 86 = .ok (.invokevirtual 126, 3) := by decide +kernel
theorem dX2_count_89 : decode cX2_count 89 = .ok (.ireturn, 1) := by decide +kernel
theorem dX2_count_90 : decode cX2_count 90 = .ok (.aload_n 0, 1) := by decide +kernel
theorem dX2_count_91 : decode cX2_count 91 = .ok (.getfield 28, 3) := by decide +kernel
theorem dX2_count_94 : decode cX2_count 94 = .ok (.getfield 129, 3) := by decide +kernel
theorem dX2_count_97 : decode cX2_count 97 = .ok (.ireturn, 1) := by decide +kernel
theorem dX2_count_98 : decode cX2_count 98 = .ok (.aload_n 0, 1) := by decide +kernel
theorem dX2_count_99 : decode cX2_count 99 = .ok (.getfield 28, 3) := by decide +kernel
theorem dX2_count_102 : decode cX2_count 102 = .ok (.getfield 132, 3) := by decide +kernel
theorem dX2_count_105 : decode cX2_count 105 = .ok (.ireturn, 1) := by decide +kernel
theorem dX2_count_106 : decode cX2_count 106 = .ok (.aload_n 0, 1) := by decide +kernel
theorem dX2_count_107 : decode cX2_count 107 = .ok (.getfield 28, 3) := by decide +kernel
theorem dX2_count_110 : decode cX2_count 110 = .ok (.getfield 135, 3) := by decide +kernel
theorem dX2_count_113 : decode cX2_count 113 = .ok (.ireturn, 1) := by decide +kernel
theorem dX2_count_114 : decode cX2_count 114 = .ok (.aload_n 0, 1) := by decide +kernel
theorem dX2_count_115 : decode cX2_count 115 = .ok (.getfield 28, 3) := by decide +kernel
theorem dX2_count_118 : decode cX2_count 118 = .ok (.getfield 138, 3) := by decide +kernel
theorem dX2_count_121 : decode cX2_count 121 = .ok (.ireturn, 1) := by decide +kernel
theorem dX2_count_122 : decode cX2_count 122 = .ok (.aload_n 0, 1) := by decide +kernel
theorem dX2_count_123 : decode cX2_count 123 = .ok (.getfield 28, 3) := by decide +kernel
theorem dX2_count_126 : decode cX2_count 126 = .ok (.getfield 141, 3) := by decide +kernel
theorem dX2_count_129 : decode cX2_count 129 = .ok (.ireturn, 1) := by decide +kernel
theorem dX2_count_130 : decode cX2_count 130 = .ok (.iconst (-1), 1) := by decide +kernel
theorem dX2_count_131 : decode cX2_count 131 = .ok (.ireturn, 1) := by decide +kernel
set_option maxRecDepth 20000 in
theorem ggX2_cheapest_X2_isRate : GoodIn wsX2_cheapest wsX2_isRate := goodIn_r _ [4, 5, 6, 3, 7] (by decide +kernel) (by decide +kernel)
set_option maxRecDepth 20000 in
theorem gX2_cheapest_X2_isRate : GoodIn wsX2_cheapest (va_wsS RX2 115 yX2_isRate wsX2_isRate) := goodIn_app (goodIn_of _ (by decide +kernel)) ggX2_cheapest_X2_isRate
set_option maxRecDepth 20000 in
theorem ggX2_cheapest_X2_eligibleBits : GoodIn wsX2_cheapest wsX2_eligibleBits := goodIn_r _ [11, 12, 13, 14, 15, 3, 16, 17, 18, 19, 20, 21, 22, 5, 6, 7, 61, 62, 63, 64, 65, 66, 67, 68, 69, 70, 71, 72, 73, 74, 75, 76, 77, 78, 79] (by decide +kernel) (by decide +kernel)
set_option maxRecDepth 20000 in
theorem gX2_cheapest_X2_eligibleBits : GoodIn wsX2_cheapest (wsV RX2 122 RX2 yX2_eligibleBits wsX2_eligibleBits) := goodIn_app (goodIn_of _ (by decide +kernel)) ggX2_cheapest_X2_eligibleBits
set_option maxRecDepth 20000 in
theorem ggX2_cheapest_X2_cheapestAt : GoodIn wsX2_cheapest wsX2_cheapestAt := goodIn_r _ [26, 12, 27, 28, 29, 3, 30, 31, 17, 32, 33, 34, 35, 36, 37, 38, 39, 40, 41, 42, 43, 44, 45, 46, 47, 48, 49, 6, 7, 50, 51, 52, 53, 54, 55, 56, 57, 58, 59, 60, 22, 61, 62, 63, 64, 65, 66, 67, 68, 69, 70, 71, 72, 73, 74, 75, 76, 77, 78, 79] (by decide +kernel) (by decide +kernel)
set_option maxRecDepth 20000 in
theorem gX2_cheapest_X2_cheapestAt : GoodIn wsX2_cheapest (wsV RX2 144 RX2 yX2_cheapestAt wsX2_cheapestAt) := goodIn_app (goodIn_of _ (by decide +kernel)) ggX2_cheapest_X2_cheapestAt
theorem dX2_cheapest_0 : decode cX2_cheapest 0 = .ok (.iload_n 1, 1) := by decide +kernel
theorem dX2_cheapest_1 : decode cX2_cheapest 1 = .ok (.invokestatic 115, 3) := by decide +kernel
theorem dX2_cheapest_4 : decode cX2_cheapest 4 = .ok (.ifCond .eq 15, 3) := by decide +kernel
theorem dX2_cheapest_7 : decode cX2_cheapest 7 = .ok (.aload_n 0, 1) := by decide +kernel
theorem dX2_cheapest_8 : decode cX2_cheapest 8 = .ok (.iload_n 1, 1) := by decide +kernel
theorem dX2_cheapest_9 : decode cX2_cheapest 9 = .ok (.aload_n 0, 1) := by decide +kernel
theorem dX2_cheapest_10 : decode cX2_cheapest 10 = .ok (.invokevirtual 122, 3) := by decide +kernel
theorem dX2_cheapest_13 : decode cX2_cheapest 13 = .ok (.invokevirtual 144, 3) := by decide +kernel
theorem dX2_cheapest_16 : decode cX2_cheapest 16 = .ok (.goto 4, 3) := by decide +kernel
theorem dX2_cheapest_19 : decode cX2_cheapest 19 = .ok (.iconst (-1), 1) := by decide +kernel
theorem dX2_cheapest_20 : decode cX2_cheapest 20 = .ok (.ireturn, 1) := by decide +kernel
set_option maxRecDepth 20000 in
theorem ggX2_ranked_X2_isRate : GoodIn wsX2_ranked wsX2_isRate := goodIn_r _ [5, 6, 7, 4, 8] (by decide +kernel) (by decide +kernel)
set_option maxRecDepth 20000 in
theorem gX2_ranked_X2_isRate : GoodIn wsX2_ranked (va_wsS RX2 115 yX2_isRate wsX2_isRate) := goodIn_app (goodIn_of _ (by decide +kernel)) ggX2_ranked_X2_isRate
set_option maxRecDepth 20000 in
theorem ggX2_ranked_X2_eligibleBits : GoodIn wsX2_ranked wsX2_eligibleBits := goodIn_r _ [12, 1, 13, 14, 15, 4, 16, 17, 18, 19, 20, 21, 22, 6, 7, 8, 61, 62, 63, 64, 65, 66, 67, 68, 69, 70, 71, 72, 73, 74, 75, 76, 77, 78, 79] (by decide +kernel) (by decide +kernel)
set_option maxRecDepth 20000 in
theorem gX2_ranked_X2_eligibleBits : GoodIn wsX2_ranked (wsV RX2 122 RX2 yX2_eligibleBits wsX2_eligibleBits) := goodIn_app (goodIn_of _ (by decide +kernel)) ggX2_ranked_X2_eligibleBits
set_option maxRecDepth 20000 in
theorem ggX2_ranked_X2_layPrices : GoodIn wsX2_ranked wsX2_layPrices := goodIn_r _ [26, 1, 27, 17, 28, 29, 4, 30, 31, 32, 33, 34, 35, 36, 37, 38, 39, 40, 41, 42, 43, 44, 45, 7, 8, 46, 47, 48, 49, 50, 51, 52, 61, 62, 63, 64, 65, 66, 67, 68, 69, 70, 71, 72, 73, 74, 75, 76, 77, 78, 79] (by decide +kernel) (by decide +kernel)
set_option maxRecDepth 20000 in
theorem gX2_ranked_X2_layPrices : GoodIn wsX2_ranked (wsV RX2 148 RX2 yX2_layPrices wsX2_layPrices) := goodIn_app (goodIn_of _ (by decide +kernel)) ggX2_ranked_X2_layPrices
set_option maxRecDepth 20000 in
theorem ggX2_ranked_X2_isIn : GoodIn wsX2_ranked wsX2_isIn := goodIn_r _ [30] (by decide +kernel) (by decide +kernel)
set_option maxRecDepth 20000 in
theorem gX2_ranked_X2_isIn : GoodIn wsX2_ranked (va_wsS RX2 152 yX2_isIn wsX2_isIn) := goodIn_app (goodIn_of _ (by decide +kernel)) ggX2_ranked_X2_isIn
set_option maxRecDepth 20000 in
theorem ggX2_ranked_X2_howManyAhead : GoodIn wsX2_ranked wsX2_howManyAhead := goodIn_r _ [56, 1, 28, 29, 4, 30, 57, 58, 59, 60, 27, 17, 22, 61, 62, 63, 64, 65, 66, 67, 68, 69, 70, 71, 72, 73, 74, 75, 76, 77, 78, 79] (by decide +kernel) (by decide +kernel)
set_option maxRecDepth 20000 in
theorem gX2_ranked_X2_howManyAhead : GoodIn wsX2_ranked (wsV RX2 156 RX2 yX2_howManyAhead wsX2_howManyAhead) := goodIn_app (goodIn_of _ (by decide +kernel)) ggX2_ranked_X2_howManyAhead
theorem dX2_ranked_0 : decode cX2_ranked 0 = .ok (.iload_n 1, 1) := by decide +kernel
theorem dX2_ranked_1 : decode cX2_ranked 1 = .ok (.invokestatic 115, 3) := by decide +kernel
theorem dX2_ranked_4 : decode cX2_ranked 4 = .ok (.ifCond .ne 5, 3) := by decide +kernel
theorem dX2_ranked_7 : decode cX2_ranked 7 = .ok (.iconst (-1), 1) := by decide +kernel
theorem dX2_ranked_8 : decode cX2_ranked 8 = .ok (.ireturn, 1) := by decide +kernel
theorem dX2_ranked_9 : decode cX2_ranked 9 = .ok (.aload_n 0, 1) := by decide +kernel
theorem dX2_ranked_10 : decode cX2_ranked 10 = .ok (.invokevirtual 122, 3) := by decide +kernel
theorem dX2_ranked_13 : decode cX2_ranked 13 = .ok (.istore_n 3, 1) := by decide +kernel
theorem dX2_ranked_14 : decode cX2_ranked 14 = .ok (.aload_n 0, 1) := by decide +kernel
theorem dX2_ranked_15 : decode cX2_ranked 15 = .ok (.iload_n 1, 1) := by decide +kernel
theorem dX2_ranked_16 : decode cX2_ranked 16 = .ok (.iload_n 3, 1) := by decide +kernel
theorem dX2_ranked_17 : decode cX2_ranked 17 = .ok (.invokevirtual 148, 3) := by decide +kernel
theorem dX2_ranked_20 : decode cX2_ranked 20 = .ok (.iconst 0, 1) := by decide +kernel
theorem dX2_ranked_21 : decode cX2_ranked 21 = .ok (.istore 4, 2) := by decide +kernel
theorem dX2_ranked_23 : decode cX2_ranked 23 = .ok (.iload 4, 2) := by decide +kernel
theorem dX2_ranked_25 : decode cX2_ranked 25 = .ok (.aload_n 0, 1) := by decide +kernel
theorem dX2_ranked_26 : decode cX2_ranked 26 = .ok (.getfield 44, 3) := by decide +kernel
theorem dX2_ranked_29 : decode cX2_ranked 29 = .ok (.if_icmp .ge 32, 3) := by decide +kernel
theorem dX2_ranked_32 : decode cX2_ranked 32 = .ok (.iload_n 3, 1) := by decide +kernel
theorem dX2_ranked_33 : decode cX2_ranked 33 = .ok (.iload 4, 2) := by decide +kernel
theorem dX2_ranked_35 : decode cX2_ranked 35 = .ok (.invokestatic 152, 3) := by decide +kernel
theorem dX2_ranked_38 : decode cX2_ranked 38 = .ok (.ifCond .eq 17, 3) := by decide +kernel
theorem dX2_ranked_41 : decode cX2_ranked 41 = .ok (.aload_n 0, 1) := by decide +kernel
theorem dX2_ranked_42 : decode cX2_ranked 42 = .ok (.iload 4, 2) := by decide +kernel
theorem dX2_ranked_44 : decode cX2_ranked 44 = .ok (.iload_n 3, 1) := by decide +kernel
theorem dX2_ranked_45 : decode cX2_ranked 45 = .ok (.invokevirtual 156, 3) := by decide +kernel
theorem dX2_ranked_48 : decode cX2_ranked 48 = .ok (.iload_n 2, 1) := by decide +kernel
theorem dX2_ranked_49 : decode cX2_ranked 49 = .ok (.if_icmp .ne 6, 3) := by decide +kernel
theorem dX2_ranked_52 : decode cX2_ranked 52 = .ok (.iload 4, 2) := by decide +kernel
theorem dX2_ranked_54 : decode cX2_ranked 54 = .ok (.ireturn, 1) := by decide +kernel
theorem dX2_ranked_55 : decode cX2_ranked 55 = .ok (.iinc 4 1, 3) := by decide +kernel
theorem dX2_ranked_58 : decode cX2_ranked 58 = .ok (.goto (-35), 3) := by decide +kernel
theorem dX2_ranked_61 : decode cX2_ranked 61 = .ok (.iconst (-1), 1) := by decide +kernel
theorem dX2_ranked_62 : decode cX2_ranked 62 = .ok (.ireturn, 1) := by decide +kernel
set_option maxRecDepth 20000 in
theorem ggX2_mark_X2_isRate : GoodIn wsX2_mark wsX2_isRate := goodIn_r _ [5, 6, 7, 4, 8] (by decide +kernel) (by decide +kernel)
set_option maxRecDepth 20000 in
theorem gX2_mark_X2_isRate : GoodIn wsX2_mark (va_wsS RX2 115 yX2_isRate wsX2_isRate) := goodIn_app (goodIn_of _ (by decide +kernel)) ggX2_mark_X2_isRate
set_option maxRecDepth 20000 in
theorem ggX2_mark_X2_eligibleBits : GoodIn wsX2_mark wsX2_eligibleBits := goodIn_r _ [12, 13, 14, 15, 16, 4, 17, 18, 19, 20, 21, 22, 23, 6, 7, 8, 67, 68, 69, 70, 71, 72, 73, 74, 75, 76, 77, 78, 79, 80, 81, 82, 83, 84, 85] (by decide +kernel) (by decide +kernel)
set_option maxRecDepth 20000 in
theorem gX2_mark_X2_eligibleBits : GoodIn wsX2_mark (wsV RX2 122 RX2 yX2_eligibleBits wsX2_eligibleBits) := goodIn_app (goodIn_of _ (by decide +kernel)) ggX2_mark_X2_eligibleBits
set_option maxRecDepth 20000 in
theorem ggX2_mark_X2_markAt : GoodIn wsX2_mark wsX2_markAt := goodIn_r _ [27, 18, 23, 1, 28, 29, 30, 31, 32, 4, 33, 13, 34, 35, 36, 37, 38, 39, 40, 41, 42, 43, 44, 45, 46, 47, 48, 49, 50, 51, 52, 53, 54, 55, 7, 8, 56, 57, 58, 59, 60, 61, 62, 63, 64, 65, 66, 67, 68, 69, 70, 71, 72, 73, 74, 75, 76, 77, 78, 79, 80, 81, 82, 83, 84, 85] (by decide +kernel) (by decide +kernel)
set_option maxRecDepth 20000 in
theorem gX2_mark_X2_markAt : GoodIn wsX2_mark (wsV RX2 159 RX2 yX2_markAt wsX2_markAt) := goodIn_app (goodIn_of _ (by decide +kernel)) ggX2_mark_X2_markAt
theorem dX2_mark_0 : decode cX2_mark 0 = .ok (.iload_n 1, 1) := by decide +kernel
theorem dX2_mark_1 : decode cX2_mark 1 = .ok (.invokestatic 115, 3) := by decide +kernel
theorem dX2_mark_4 : decode cX2_mark 4 = .ok (.ifCond .eq 15, 3) := by decide +kernel
theorem dX2_mark_7 : decode cX2_mark 7 = .ok (.aload_n 0, 1) := by decide +kernel
theorem dX2_mark_8 : decode cX2_mark 8 = .ok (.iload_n 1, 1) := by decide +kernel
theorem dX2_mark_9 : decode cX2_mark 9 = .ok (.aload_n 0, 1) := by decide +kernel
theorem dX2_mark_10 : decode cX2_mark 10 = .ok (.invokevirtual 122, 3) := by decide +kernel
theorem dX2_mark_13 : decode cX2_mark 13 = .ok (.invokevirtual 159, 3) := by decide +kernel
theorem dX2_mark_16 : decode cX2_mark 16 = .ok (.goto 6, 3) := by decide +kernel
theorem dX2_mark_19 : decode cX2_mark 19 = .ok (.ldc2_w 163, 3) := by decide +kernel
theorem dX2_mark_22 : decode cX2_mark 22 = .ok (.lreturn, 1) := by decide +kernel
set_option maxRecDepth 20000 in
theorem ggX2_gap_X2_has : GoodIn wsX2_gap wsX2_has := goodIn_r _ [8, 9, 10, 11, 7, 12, 78, 79, 80, 81, 82, 83, 84, 85, 86] (by decide +kernel) (by decide +kernel)
set_option maxRecDepth 20000 in
theorem gX2_gap_X2_has : GoodIn wsX2_gap (wsV RX2 63 RX2 yX2_has wsX2_has) := goodIn_app (goodIn_of _ (by decide +kernel)) ggX2_gap_X2_has
set_option maxRecDepth 20000 in
theorem ggX2_gap_X2_isEligible : GoodIn wsX2_gap wsX2_isEligible := goodIn_r _ [16, 3, 17, 18, 19, 20, 21, 10, 11, 7, 12, 78, 79, 80, 81, 82, 83, 84, 85, 86, 87, 88, 89, 90, 91, 92, 93, 94, 95, 96] (by decide +kernel) (by decide +kernel)
set_option maxRecDepth 20000 in
theorem gX2_gap_X2_isEligible : GoodIn wsX2_gap (wsV RX2 107 RX2 yX2_isEligible wsX2_isEligible) := goodIn_app (goodIn_of _ (by decide +kernel)) ggX2_gap_X2_isEligible
set_option maxRecDepth 20000 in
theorem ggX2_gap_X2_isRate : GoodIn wsX2_gap wsX2_isRate := goodIn_r _ [24, 10, 11, 7, 12] (by decide +kernel) (by decide +kernel)
set_option maxRecDepth 20000 in
theorem gX2_gap_X2_isRate : GoodIn wsX2_gap (va_wsS RX2 115 yX2_isRate wsX2_isRate) := goodIn_app (goodIn_of _ (by decide +kernel)) ggX2_gap_X2_isRate
set_option maxRecDepth 20000 in
theorem ggX2_gap_X2_eligibleBits : GoodIn wsX2_gap wsX2_eligibleBits := goodIn_r _ [28, 9, 13, 14, 15, 7, 16, 3, 17, 18, 19, 20, 21, 10, 11, 12, 78, 79, 80, 81, 82, 83, 84, 85, 86, 87, 88, 89, 90, 91, 92, 93, 94, 95, 96] (by decide +kernel) (by decide +kernel)
set_option maxRecDepth 20000 in
theorem gX2_gap_X2_eligibleBits : GoodIn wsX2_gap (wsV RX2 122 RX2 yX2_eligibleBits wsX2_eligibleBits) := goodIn_app (goodIn_of _ (by decide +kernel)) ggX2_gap_X2_eligibleBits
set_option maxRecDepth 20000 in
theorem ggX2_gap_X2_markAt : GoodIn wsX2_gap wsX2_markAt := goodIn_r _ [32, 3, 21, 33, 34, 35, 36, 37, 38, 7, 39, 9, 40, 41, 42, 43, 44, 45, 46, 47, 48, 49, 50, 51, 52, 53, 54, 55, 56, 57, 58, 59, 60, 61, 11, 12, 62, 63, 64, 65, 66, 67, 68, 69, 70, 71, 72, 78, 79, 80, 81, 82, 83, 84, 85, 86, 87, 88, 89, 90, 91, 92, 93, 94, 95, 96] (by decide +kernel) (by decide +kernel)
set_option maxRecDepth 20000 in
theorem gX2_gap_X2_markAt : GoodIn wsX2_gap (wsV RX2 159 RX2 yX2_markAt wsX2_markAt) := goodIn_app (goodIn_of _ (by decide +kernel)) ggX2_gap_X2_markAt
set_option maxRecDepth 20000 in
theorem ggX2_gap_X0_priceAt : GoodIn wsX2_gap wsX0_priceAt := goodIn_r _ [51, 52, 53, 54, 55, 56, 57, 58, 59, 50, 60, 61, 11, 7, 12, 62, 63, 64, 65, 66, 67, 68, 87, 88, 89, 90, 91, 92, 93, 94, 95, 96] (by decide +kernel) (by decide +kernel)
set_option maxRecDepth 20000 in
theorem gX2_gap_X0_priceAt : GoodIn wsX2_gap (wsV RX2 118 RX0 yX0_priceAt wsX0_priceAt) := goodIn_app (goodIn_of _ (by decide +kernel)) ggX2_gap_X0_priceAt
set_option maxRecDepth 20000 in
theorem ggX2_gap_X0_invoiceBy : GoodIn wsX2_gap wsX0_invoiceBy := goodIn_r _ [76, 77, 68, 87, 88, 89, 90, 91, 92, 93, 94, 95, 96] (by decide +kernel) (by decide +kernel)
set_option maxRecDepth 20000 in
theorem gX2_gap_X0_invoiceBy : GoodIn wsX2_gap (wsV RX2 167 RX0 yX0_invoiceBy wsX0_invoiceBy) := goodIn_app (goodIn_of _ (by decide +kernel)) ggX2_gap_X0_invoiceBy
theorem dX2_gap_0 : decode cX2_gap 0 = .ok (.aload_n 0, 1) := by decide +kernel
theorem dX2_gap_1 : decode cX2_gap 1 = .ok (.iload_n 1, 1) := by decide +kernel
theorem dX2_gap_2 : decode cX2_gap 2 = .ok (.invokevirtual 63, 3) := by decide +kernel
theorem dX2_gap_5 : decode cX2_gap 5 = .ok (.ifCond .eq 18, 3) := by decide +kernel
theorem dX2_gap_8 : decode cX2_gap 8 = .ok (.aload_n 0, 1) := by decide +kernel
theorem dX2_gap_9 : decode cX2_gap 9 = .ok (.iload_n 1, 1) := by decide +kernel
theorem dX2_gap_10 : decode cX2_gap 10 = .ok (.invokevirtual 107, 3) := by decide +kernel
theorem dX2_gap_13 : decode cX2_gap 13 = .ok (.ifCond .eq 10, 3) := by decide +kernel
theorem dX2_gap_16 : decode cX2_gap 16 = .ok (.iload_n 2, 1) := by decide +kernel
theorem dX2_gap_17 : decode cX2_gap 17 = .ok (.invokestatic 115, 3) := by decide +kernel
theorem dX2_gap_20 : decode cX2_gap 20 = .ok (.ifCond .ne 13, 3) := by decide +kernel
theorem dX2_gap_23 : decode cX2_gap 23 = .ok (.new 76, 3) := by decide +kernel
theorem dX2_gap_26 : decode cX2_gap 26 = .ok (.dup, 1) := by decide +kernel
theorem dX2_gap_27 : decode cX2_gap 27 = .ok (.ldc 165, 2) := by decide +kernel
theorem dX2_gap_29 : decode cX2_gap 29 = .ok (.invokespecial 80, 3) := by decide +kernel
theorem dX2_gap_32 : decode cX2_gap 32 = .ok (.athrow, 1) := by decide +kernel
theorem dX2_gap_33 : decode cX2_gap 33 = .ok (.aload_n 0, 1) := by decide +kernel
theorem dX2_gap_34 : decode cX2_gap 34 = .ok (.iload_n 2, 1) := by decide +kernel
theorem dX2_gap_35 : decode cX2_gap 35 = .ok (.aload_n 0, 1) := by decide +kernel
theorem dX2_gap_36 : decode cX2_gap 36 = .ok (.invokevirtual 122, 3) := by decide +kernel
theorem dX2_gap_39 : decode cX2_gap 39 = .ok (.invokevirtual 159, 3) := by decide +kernel
theorem dX2_gap_42 : decode cX2_gap 42 = .ok (.lstore_n 3, 1) := by decide +kernel
theorem dX2_gap_43 : decode cX2_gap 43 = .ok (.aload_n 0, 1) := by decide +kernel
theorem dX2_gap_44 : decode cX2_gap 44 = .ok (.getfield 11, 3) := by decide +kernel
theorem dX2_gap_47 : decode cX2_gap 47 = .ok (.iload_n 1, 1) := by decide +kernel
theorem dX2_gap_48 : decode cX2_gap 48 = .ok (.aaload, 1) := by decide +kernel
theorem dX2_gap_49 : decode cX2_gap 49 = .ok (.iload_n 2, 1) := by decide +kernel
theorem dX2_gap_50 : decode cX2_gap 50 = .ok (.invokevirtual 118, 3) := by decide +kernel
theorem dX2_gap_53 : decode cX2_gap 53 = .ok (.i2l, 1) := by decide +kernel
theorem dX2_gap_54 : decode cX2_gap 54 = .ok (.aload_n 0, 1) := by decide +kernel
theorem dX2_gap_55 : decode cX2_gap 55 = .ok (.getfield 11, 3) := by decide +kernel
theorem dX2_gap_58 : decode cX2_gap 58 = .ok (.iload_n 1, 1) := by decide +kernel
theorem dX2_gap_59 : decode cX2_gap 59 = .ok (.aaload, 1) := by decide +kernel
theorem dX2_gap_60 : decode cX2_gap 60 = .ok (.lload_n 3, 1) := by decide +kernel
theorem dX2_gap_61 : decode cX2_gap 61 = .ok (.invokevirtual 167, 3) := by decide +kernel
theorem dX2_gap_64 : decode cX2_gap 64 = .ok (.lsub, 1) := by decide +kernel
theorem dX2_gap_65 : decode cX2_gap 65 = .ok (.lreturn, 1) := by decide +kernel
set_option maxRecDepth 20000 in
theorem ggX2_switches_X2_eligibleBits : GoodIn wsX2_switches wsX2_eligibleBits := goodIn_r _ [5, 6, 7, 8, 9, 4, 10, 11, 12, 13, 14, 15, 16, 17, 18, 19, 70, 71, 72, 73, 74, 75, 76, 77, 78, 79, 80, 81, 82, 83, 84, 85, 86, 87, 88] (by decide +kernel) (by decide +kernel)
set_option maxRecDepth 20000 in
theorem gX2_switches_X2_eligibleBits : GoodIn wsX2_switches (wsV RX2 122 RX2 yX2_eligibleBits wsX2_eligibleBits) := goodIn_app (goodIn_of _ (by decide +kernel)) ggX2_switches_X2_eligibleBits
set_option maxRecDepth 20000 in
theorem ggX2_switches_X2_isRate : GoodIn wsX2_switches wsX2_isRate := goodIn_r _ [22, 17, 18, 4, 19] (by decide +kernel) (by decide +kernel)
set_option maxRecDepth 20000 in
theorem gX2_switches_X2_isRate : GoodIn wsX2_switches (va_wsS RX2 115 yX2_isRate wsX2_isRate) := goodIn_app (goodIn_of _ (by decide +kernel)) ggX2_switches_X2_isRate
set_option maxRecDepth 20000 in
theorem ggX2_switches_X2_keepWorths : GoodIn wsX2_switches wsX2_keepWorths := goodIn_r _ [26, 6, 11, 27, 28, 4, 29, 30, 31, 32, 33, 34, 35, 36, 70, 71, 72, 73, 74, 75, 76, 77, 78, 79, 80, 81, 82, 83, 84, 85, 86, 87, 88] (by decide +kernel) (by decide +kernel)
set_option maxRecDepth 20000 in
theorem gX2_switches_X2_keepWorths : GoodIn wsX2_switches (wsV RX2 171 RX2 yX2_keepWorths wsX2_keepWorths) := goodIn_app (goodIn_of _ (by decide +kernel)) ggX2_switches_X2_keepWorths
set_option maxRecDepth 20000 in
theorem ggX2_switches_X2_cheapestAt : GoodIn wsX2_switches wsX2_cheapestAt := goodIn_r _ [40, 6, 41, 42, 43, 4, 44, 45, 11, 27, 28, 29, 46, 47, 48, 33, 49, 50, 51, 52, 53, 54, 55, 56, 57, 58, 35, 18, 19, 59, 60, 61, 62, 63, 64, 65, 66, 67, 68, 69, 16, 70, 71, 72, 73, 74, 75, 76, 77, 78, 79, 80, 81, 82, 83, 84, 85, 86, 87, 88] (by decide +kernel) (by decide +kernel)
set_option maxRecDepth 20000 in
theorem gX2_switches_X2_cheapestAt : GoodIn wsX2_switches (wsV RX2 144 RX2 yX2_cheapestAt wsX2_cheapestAt) := goodIn_app (goodIn_of _ (by decide +kernel)) ggX2_switches_X2_cheapestAt
theorem dX2_switches_0 : decode cX2_switches 0 = .ok (.aload_n 0, 1) := by decide +kernel
theorem dX2_switches_1 : decode cX2_switches 1 = .ok (.invokevirtual 122, 3) := by decide +kernel
theorem dX2_switches_4 : decode cX2_switches 4 = .ok (.istore 4, 2) := by decide +kernel
theorem dX2_switches_6 : decode cX2_switches 6 = .ok (.iload_n 1, 1) := by decide +kernel
theorem dX2_switches_7 : decode cX2_switches 7 = .ok (.invokestatic 115, 3) := by decide +kernel
theorem dX2_switches_10 : decode cX2_switches 10 = .ok (.ifCond .eq 25, 3) := by decide +kernel
theorem dX2_switches_13 : decode cX2_switches 13 = .ok (.iload_n 2, 1) := by decide +kernel
theorem dX2_switches_14 : decode cX2_switches 14 = .ok (.invokestatic 115, 3) := by decide +kernel
theorem dX2_switches_17 : decode cX2_switches 17 = .ok (.ifCond .eq 18, 3) := by decide +kernel
theorem dX2_switches_20 : decode cX2_switches 20 = .ok (.iload_n 1, 1) := by decide +kernel
theorem dX2_switches_21 : decode cX2_switches 21 = .ok (.iload_n 2, 1) := by decide +kernel
theorem dX2_switches_22 : decode cX2_switches 22 = .ok (.if_icmp .gt 13, 3) := by decide +kernel
theorem dX2_switches_25 : decode cX2_switches 25 = .ok (.iload_n 3, 1) := by decide +kernel
theorem dX2_switches_26 : decode cX2_switches 26 = .ok (.iconst (-1), 1) := by decide +kernel
theorem dX2_switches_27 : decode cX2_switches 27 = .ok (.if_icmp .lt 8, 3) := by decide +kernel
theorem dX2_switches_30 : decode cX2_switches 30 = .ok (.iload 4, 2) := by decide +kernel
theorem dX2_switches_32 : decode cX2_switches 32 = .ok (.ifCond .ne 5, 3) := by decide +kernel
theorem dX2_switches_35 : decode cX2_switches 35 = .ok (.iconst (-1), 1) := by decide +kernel
theorem dX2_switches_36 : decode cX2_switches 36 = .ok (.ireturn, 1) := by decide +kernel
theorem dX2_switches_37 : decode cX2_switches 37 = .ok (.aload_n 0, 1) := by decide +kernel
theorem dX2_switches_38 : decode cX2_switches 38 = .ok (.iload 4, 2) := by decide +kernel
theorem dX2_switches_40 : decode cX2_switches 40 = .ok (.invokevirtual 171, 3) := by decide +kernel
theorem dX2_switches_43 : decode cX2_switches 43 = .ok (.iconst 0, 1) := by decide +kernel
theorem dX2_switches_44 : decode cX2_switches 44 = .ok (.istore 5, 2) := by decide +kernel
theorem dX2_switches_46 : decode cX2_switches 46 = .ok (.aload_n 0, 1) := by decide +kernel
theorem dX2_switches_47 : decode cX2_switches 47 = .ok (.iload_n 1, 1) := by decide +kernel
theorem dX2_switches_48 : decode cX2_switches 48 = .ok (.iload 4, 2) := by decide +kernel
theorem dX2_switches_50 : decode cX2_switches 50 = .ok (.invokevirtual 144, 3) := by decide +kernel
theorem dX2_switches_53 : decode cX2_switches 53 = .ok (.istore 6, 2) := by decide +kernel
theorem dX2_switches_55 : decode cX2_switches 55 = .ok (.iload_n 1, 1) := by decide +kernel
theorem dX2_switches_56 : decode cX2_switches 56 = .ok (.iconst 1, 1) := by decide +kernel
theorem dX2_switches_57 : decode cX2_switches 57 = .ok (.iadd, 1) := by decide +kernel
theorem dX2_switches_58 : decode cX2_switches 58 = .ok (.istore 7, 2) := by decide +kernel
theorem dX2_switches_60 : decode cX2_switches 60 = .ok (.iload 7, 2) := by decide +kernel
theorem dX2_switches_62 : decode cX2_switches 62 = .ok (.iload_n 2, 1) := by decide +kernel
theorem dX2_switches_63 : decode cX2_switches 63 = .ok (.if_icmp .gt 42, 3) := by decide +kernel
theorem dX2_switches_66 : decode cX2_switches 66 = .ok (.aload_n 0, 1) := by decide +kernel
theorem dX2_switches_67 : decode cX2_switches 67 = .ok (.iload 7, 2) := by decide +kernel
theorem dX2_switches_69 : decode cX2_switches 69 = .ok (.iload 4, 2) := by decide +kernel
theorem dX2_switches_71 : decode cX2_switches 71 = .ok (.invokevirtual 144, 3) := by decide +kernel
theorem dX2_switches_74 : decode cX2_switches 74 = .ok (.istore 8, 2) := by decide +kernel
theorem dX2_switches_76 : decode cX2_switches 76 = .ok (.iload 8, 2) := by decide +kernel
theorem dX2_switches_78 : decode cX2_switches 78 = .ok (.iload 6, 2) := by decide +kernel
theorem dX2_switches_80 : decode cX2_switches 80 = .ok (.if_icmp .eq 15, 3) := by decide +kernel
theorem dX2_switches_83 : decode cX2_switches 83 = .ok (.iload 5, 2) := by decide +kernel
theorem dX2_switches_85 : decode cX2_switches 85 = .ok (.iload_n 3, 1) := by decide +kernel
theorem dX2_switches_86 : decode cX2_switches 86 = .ok (.if_icmp .ne 6, 3) := by decide +kernel
theorem dX2_switches_89 : decode cX2_switches 89 = .ok (.iload 7, 2) := by decide +kernel
theorem dX2_switches_91 : decode cX2_switches 91 = .ok (.ireturn, 1) := by decide +kernel
theorem dX2_switches_92 : decode cX2_switches 92 = .ok (.iinc 5 1, 3) := by decide +kernel
theorem dX2_switches_95 : decode cX2_switches 95 = .ok (.iload 8, 2) := by decide +kernel
theorem dX2_switches_97 : decode cX2_switches 97 = .ok (.istore 6, 2) := by decide +kernel
theorem dX2_switches_99 : decode cX2_switches 99 = .ok (.iinc 7 1, 3) := by decide +kernel
theorem dX2_switches_102 : decode cX2_switches 102 = .ok (.goto (-42), 3) := by decide +kernel
theorem dX2_switches_105 : decode cX2_switches 105 = .ok (.iload_n 3, 1) := by decide +kernel
theorem dX2_switches_106 : decode cX2_switches 106 = .ok (.iconst (-1), 1) := by decide +kernel
theorem dX2_switches_107 : decode cX2_switches 107 = .ok (.if_icmp .ne 8, 3) := by decide +kernel
theorem dX2_switches_110 : decode cX2_switches 110 = .ok (.iload 5, 2) := by decide +kernel
theorem dX2_switches_112 : decode cX2_switches 112 = .ok (.goto 4, 3) := by decide +kernel
theorem dX2_switches_115 : decode cX2_switches 115 = .ok (.iconst (-1), 1) := by decide +kernel
theorem dX2_switches_116 : decode cX2_switches 116 = .ok (.ireturn, 1) := by decide +kernel
set_option maxRecDepth 20000 in
theorem ggX2_implied_X2_eligibleBits : GoodIn wsX2_implied wsX2_eligibleBits := goodIn_r _ [5, 6, 7, 8, 9, 4, 10, 11, 12, 13, 14, 15, 16, 17, 18, 19, 64, 65, 66, 67, 68, 69, 70, 71, 72, 73, 74, 75, 76, 77, 78, 79, 80, 81, 82] (by decide +kernel) (by decide +kernel)
set_option maxRecDepth 20000 in
theorem gX2_implied_X2_eligibleBits : GoodIn wsX2_implied (wsV RX2 122 RX2 yX2_eligibleBits wsX2_eligibleBits) := goodIn_app (goodIn_of _ (by decide +kernel)) ggX2_implied_X2_eligibleBits
set_option maxRecDepth 20000 in
theorem ggX2_implied_X2_markAt : GoodIn wsX2_implied wsX2_markAt := goodIn_r _ [23, 11, 16, 24, 25, 26, 27, 28, 29, 4, 30, 6, 31, 32, 33, 34, 35, 36, 37, 38, 39, 40, 41, 42, 43, 44, 45, 46, 47, 48, 49, 50, 51, 52, 18, 19, 53, 54, 55, 56, 57, 58, 59, 60, 61, 62, 63, 64, 65, 66, 67, 68, 69, 70, 71, 72, 73, 74, 75, 76, 77, 78, 79, 80, 81, 82] (by decide +kernel) (by decide +kernel)
set_option maxRecDepth 20000 in
theorem gX2_implied_X2_markAt : GoodIn wsX2_implied (wsV RX2 159 RX2 yX2_markAt wsX2_markAt) := goodIn_app (goodIn_of _ (by decide +kernel)) ggX2_implied_X2_markAt
theorem dX2_implied_0 : decode cX2_implied 0 = .ok (.aload_n 0, 1) := by decide +kernel
theorem dX2_implied_1 : decode cX2_implied 1 = .ok (.invokevirtual 122, 3) := by decide +kernel
theorem dX2_implied_4 : decode cX2_implied 4 = .ok (.istore_n 3, 1) := by decide +kernel
theorem dX2_implied_5 : decode cX2_implied 5 = .ok (.iload_n 3, 1) := by decide +kernel
theorem dX2_implied_6 : decode cX2_implied 6 = .ok (.ifCond .ne 5, 3) := by decide +kernel
theorem dX2_implied_9 : decode cX2_implied 9 = .ok (.iconst (-1), 1) := by decide +kernel
theorem dX2_implied_10 : decode cX2_implied 10 = .ok (.ireturn, 1) := by decide +kernel
theorem dX2_implied_11 : decode cX2_implied 11 = .ok (.iconst (-1), 1) := by decide +kernel
theorem dX2_implied_12 : decode cX2_implied 12 = .ok (.istore 4, 2) := by decide +kernel
theorem dX2_implied_14 : decode cX2_implied 14 = .ok (.sipush 2048, 3) := by decide +kernel
theorem dX2_implied_17 : decode cX2_implied 17 = .ok (.istore 5, 2) := by decide +kernel
theorem dX2_implied_19 : decode cX2_implied 19 = .ok (.iload 5, 2) := by decide +kernel
theorem dX2_implied_21 : decode cX2_implied 21 = .ok (.ifCond .le 45, 3) := by decide +kernel
theorem dX2_implied_24 : decode cX2_implied 24 = .ok (.iload 4, 2) := by decide +kernel
theorem dX2_implied_26 : decode cX2_implied 26 = .ok (.iload 5, 2) := by decide +kernel
theorem dX2_implied_28 : decode cX2_implied 28 = .ok (.iadd, 1) := by decide +kernel
theorem dX2_implied_29 : decode cX2_implied 29 = .ok (.sipush 3000, 3) := by decide +kernel
theorem dX2_implied_32 : decode cX2_implied 32 = .ok (.if_icmp .gt 25, 3) := by decide +kernel
theorem dX2_implied_35 : decode cX2_implied 35 = .ok (.aload_n 0, 1) := by decide +kernel
theorem dX2_implied_36 : decode cX2_implied 36 = .ok (.iload 4, 2) := by decide +kernel
theorem dX2_implied_38 : decode cX2_implied 38 = .ok (.iload 5, 2) := by decide +kernel
theorem dX2_implied_40 : decode cX2_implied 40 = .ok (.iadd, 1) := by decide +kernel
theorem dX2_implied_41 : decode cX2_implied 41 = .ok (.iload_n 3, 1) := by decide +kernel
theorem dX2_implied_42 : decode cX2_implied 42 = .ok (.invokevirtual 159, 3) := by decide +kernel
theorem dX2_implied_45 : decode cX2_implied 45 = .ok (.lload_n 1, 1) := by decide +kernel
theorem dX2_implied_46 : decode cX2_implied 46 = .ok (.lcmp, 1) := by decide +kernel
theorem dX2_implied_47 : decode cX2_implied 47 = .ok (.ifCond .le 10, 3) := by decide +kernel
theorem dX2_implied_50 : decode cX2_implied 50 = .ok (.iload 4, 2) := by decide +kernel
theorem dX2_implied_52 : decode cX2_implied 52 = .ok (.iload 5, 2) := by decide +kernel
theorem dX2_implied_54 : decode cX2_implied 54 = .ok (.iadd, 1) := by decide +kernel
theorem dX2_implied_55 : decode cX2_implied 55 = .ok (.istore 4, 2) := by decide +kernel
theorem dX2_implied_57 : decode cX2_implied 57 = .ok (.iload 5, 2) := by decide +kernel
theorem dX2_implied_59 : decode cX2_implied 59 = .ok (.iconst 2, 1) := by decide +kernel
theorem dX2_implied_60 : decode cX2_implied 60 = .ok (.idiv, 1) := by decide +kernel
theorem dX2_implied_61 : decode cX2_implied 61 = .ok (.istore 5, 2) := by decide +kernel
theorem dX2_implied_63 : decode cX2_implied 63 = .ok (.goto (-44), 3) := by decide +kernel
theorem dX2_implied_66 : decode cX2_implied 66 = .ok (.iload 4, 2) := by decide +kernel
theorem dX2_implied_68 : decode cX2_implied 68 = .ok (.sipush 3000, 3) := by decide +kernel
theorem dX2_implied_71 : decode cX2_implied 71 = .ok (.if_icmp .ne 7, 3) := by decide +kernel
theorem dX2_implied_74 : decode cX2_implied 74 = .ok (.iconst (-1), 1) := by decide +kernel
theorem dX2_implied_75 : decode cX2_implied 75 = .ok (.goto 7, 3) := by decide +kernel
theorem dX2_implied_78 : decode cX2_implied 78 = .ok (.iload 4, 2) := by decide +kernel
theorem dX2_implied_80 : decode cX2_implied 80 = .ok (.iconst 1, 1) := by decide +kernel
theorem dX2_implied_81 : decode cX2_implied 81 = .ok (.iadd, 1) := by decide +kernel
theorem dX2_implied_82 : decode cX2_implied 82 = .ok (.ireturn, 1) := by decide +kernel
set_option maxRecDepth 20000 in
theorem ggX2_meet_X2_canAsk : GoodIn wsX2_meet wsX2_canAsk := goodIn_r _ [5, 6, 7, 8, 4, 9, 10, 11, 12] (by decide +kernel) (by decide +kernel)
set_option maxRecDepth 20000 in
theorem gX2_meet_X2_canAsk : GoodIn wsX2_meet (va_wsS RX2 174 yX2_canAsk wsX2_canAsk) := goodIn_app (goodIn_of _ (by decide +kernel)) ggX2_meet_X2_canAsk
set_option maxRecDepth 20000 in
theorem ggX2_meet_X2_has : GoodIn wsX2_meet wsX2_has := goodIn_r _ [16, 17, 7, 8, 4, 9, 79, 80, 81, 82, 83, 84, 85, 86, 87] (by decide +kernel) (by decide +kernel)
set_option maxRecDepth 20000 in
theorem gX2_meet_X2_has : GoodIn wsX2_meet (wsV RX2 63 RX2 yX2_has wsX2_has) := goodIn_app (goodIn_of _ (by decide +kernel)) ggX2_meet_X2_has
set_option maxRecDepth 20000 in
theorem ggX2_meet_X2_takeCheapest : GoodIn wsX2_meet wsX2_takeCheapest := goodIn_r _ [21, 1, 17, 22, 23, 24, 25, 26, 27, 28, 29, 30, 31, 4, 32, 33, 34, 35, 36, 37, 38, 39, 40, 41, 7, 8, 9, 42, 43, 44, 45, 46, 47, 48, 49, 50, 51, 52, 53, 54, 55, 56, 57, 58, 59, 60, 61, 62, 63, 64, 65, 66, 67, 68, 69, 70, 71, 72, 73, 74, 75, 76, 77, 78, 79, 80, 81, 82, 83, 84, 85, 86, 87, 88, 89, 90, 91, 92, 93, 94, 95, 96, 97] (by decide +kernel) (by decide +kernel)
set_option maxRecDepth 20000 in
theorem gX2_meet_X2_takeCheapest : GoodIn wsX2_meet (wsV RX2 177 RX2 yX2_takeCheapest wsX2_takeCheapest) := goodIn_app (goodIn_of _ (by decide +kernel)) ggX2_meet_X2_takeCheapest
theorem dX2_meet_0 : decode cX2_meet 0 = .ok (.iload_n 1, 1) := by decide +kernel
theorem dX2_meet_1 : decode cX2_meet 1 = .ok (.iload_n 2, 1) := by decide +kernel
theorem dX2_meet_2 : decode cX2_meet 2 = .ok (.iload_n 3, 1) := by decide +kernel
theorem dX2_meet_3 : decode cX2_meet 3 = .ok (.invokestatic 174, 3) := by decide +kernel
theorem dX2_meet_6 : decode cX2_meet 6 = .ok (.ifCond .eq 18, 3) := by decide +kernel
theorem dX2_meet_9 : decode cX2_meet 9 = .ok (.iload 4, 2) := by decide +kernel
theorem dX2_meet_11 : decode cX2_meet 11 = .ok (.iconst (-1), 1) := by decide +kernel
theorem dX2_meet_12 : decode cX2_meet 12 = .ok (.if_icmp .eq 14, 3) := by decide +kernel
theorem dX2_meet_15 : decode cX2_meet 15 = .ok (.aload_n 0, 1) := by decide +kernel
theorem dX2_meet_16 : decode cX2_meet 16 = .ok (.iload 4, 2) := by decide +kernel
theorem dX2_meet_18 : decode cX2_meet 18 = .ok (.invokevirtual 63, 3) := by decide +kernel
theorem dX2_meet_21 : decode cX2_meet 21 = .ok (.ifCond .ne 5, 3) := by decide +kernel
theorem dX2_meet_24 : decode cX2_meet 24 = .ok (.iconst (-1), 1) := by decide +kernel
theorem dX2_meet_25 : decode cX2_meet 25 = .ok (.ireturn, 1) := by decide +kernel
theorem dX2_meet_26 : decode cX2_meet 26 = .ok (.aload_n 0, 1) := by decide +kernel
theorem dX2_meet_27 : decode cX2_meet 27 = .ok (.iload_n 1, 1) := by decide +kernel
theorem dX2_meet_28 : decode cX2_meet 28 = .ok (.iload_n 2, 1) := by decide +kernel
theorem dX2_meet_29 : decode cX2_meet 29 = .ok (.iload_n 3, 1) := by decide +kernel
theorem dX2_meet_30 : decode cX2_meet 30 = .ok (.invokevirtual 177, 3) := by decide +kernel
theorem dX2_meet_33 : decode cX2_meet 33 = .ok (.istore 5, 2) := by decide +kernel
theorem dX2_meet_35 : decode cX2_meet 35 = .ok (.iload 4, 2) := by decide +kernel
theorem dX2_meet_37 : decode cX2_meet 37 = .ok (.iconst (-1), 1) := by decide +kernel
theorem dX2_meet_38 : decode cX2_meet 38 = .ok (.if_icmp .ne 14, 3) := by decide +kernel
theorem dX2_meet_41 : decode cX2_meet 41 = .ok (.iload 5, 2) := by decide +kernel
theorem dX2_meet_43 : decode cX2_meet 43 = .ok (.ifCond .eq 7, 3) := by decide +kernel
theorem dX2_meet_46 : decode cX2_meet 46 = .ok (.iconst 1, 1) := by decide +kernel
theorem dX2_meet_47 : decode cX2_meet 47 = .ok (.goto 4, 3) := by decide +kernel
theorem dX2_meet_50 : decode cX2_meet 50 = .ok (.iconst 0, 1) := by decide +kernel

theorem dX2_meet_51 : decode cX2_meet 51 = .ok (.ireturn, 1) := by decide +kernel
theorem dX2_meet_52 : decode cX2_meet 52 = .ok (.iload 5, 2) := by decide +kernel
theorem dX2_meet_54 : decode cX2_meet 54 = .ok (.ifCond .eq 13, 3) := by decide +kernel
theorem dX2_meet_57 : decode cX2_meet 57 = .ok (.aload_n 0, 1) := by decide +kernel
theorem dX2_meet_58 : decode cX2_meet 58 = .ok (.getfield 40, 3) := by decide +kernel
theorem dX2_meet_61 : decode cX2_meet 61 = .ok (.iload 4, 2) := by decide +kernel
theorem dX2_meet_63 : decode cX2_meet 63 = .ok (.iaload, 1) := by decide +kernel
theorem dX2_meet_64 : decode cX2_meet 64 = .ok (.goto 4, 3) := by decide +kernel
theorem dX2_meet_67 : decode cX2_meet 67 = .ok (.iconst (-1), 1) := by decide +kernel
theorem dX2_meet_68 : decode cX2_meet 68 = .ok (.ireturn, 1) := by decide +kernel
set_option maxRecDepth 20000 in
theorem ggX2_cost_X2_canAsk : GoodIn wsX2_cost wsX2_canAsk := goodIn_r _ [9, 10, 11, 12, 8, 13, 14, 15, 16] (by decide +kernel) (by decide +kernel)
set_option maxRecDepth 20000 in
theorem gX2_cost_X2_canAsk : GoodIn wsX2_cost (va_wsS RX2 174 yX2_canAsk wsX2_canAsk) := goodIn_app (goodIn_of _ (by decide +kernel)) ggX2_cost_X2_canAsk
set_option maxRecDepth 20000 in
theorem ggX2_cost_X2_takeCheapest : GoodIn wsX2_cost wsX2_takeCheapest := goodIn_r _ [20, 4, 3, 5, 21, 22, 23, 24, 25, 26, 27, 28, 29, 8, 30, 31, 32, 33, 34, 35, 36, 37, 38, 39, 11, 12, 13, 40, 41, 42, 43, 44, 45, 46, 47, 48, 49, 50, 51, 52, 53, 54, 55, 56, 57, 58, 59, 60, 61, 62, 63, 64, 65, 66, 67, 68, 69, 70, 71, 72, 73, 74, 75, 76, 77, 78, 79, 80, 81, 82, 83, 84, 85, 86, 87, 88, 89, 90, 91, 92, 93, 94, 95] (by decide +kernel) (by decide +kernel)
set_option maxRecDepth 20000 in
theorem gX2_cost_X2_takeCheapest : GoodIn wsX2_cost (wsV RX2 177 RX2 yX2_takeCheapest wsX2_takeCheapest) := goodIn_app (goodIn_of _ (by decide +kernel)) ggX2_cost_X2_takeCheapest
theorem dX2_cost_0 : decode cX2_cost 0 = .ok (.iload_n 1, 1) := by decide +kernel
theorem dX2_cost_1 : decode cX2_cost 1 = .ok (.iload_n 2, 1) := by decide +kernel
theorem dX2_cost_2 : decode cX2_cost 2 = .ok (.iload_n 3, 1) := by decide +kernel
theorem dX2_cost_3 : decode cX2_cost 3 = .ok (.invokestatic 174, 3) := by decide +kernel
theorem dX2_cost_6 : decode cX2_cost 6 = .ok (.ifCond .eq 13, 3) := by decide +kernel
theorem dX2_cost_9 : decode cX2_cost 9 = .ok (.aload_n 0, 1) := by decide +kernel
theorem dX2_cost_10 : decode cX2_cost 10 = .ok (.iload_n 1, 1) := by decide +kernel
theorem dX2_cost_11 : decode cX2_cost 11 = .ok (.iload_n 2, 1) := by decide +kernel
theorem dX2_cost_12 : decode cX2_cost 12 = .ok (.iload_n 3, 1) := by decide +kernel
theorem dX2_cost_13 : decode cX2_cost 13 = .ok (.invokevirtual 177, 3) := by decide +kernel
theorem dX2_cost_16 : decode cX2_cost 16 = .ok (.ifCond .ne 13, 3) := by decide +kernel
theorem dX2_cost_19 : decode cX2_cost 19 = .ok (.new 76, 3) := by decide +kernel
theorem dX2_cost_22 : decode cX2_cost 22 = .ok (.dup, 1) := by decide +kernel
theorem dX2_cost_23 : decode cX2_cost 23 = .ok (.ldc 180, 2) := by decide +kernel
theorem dX2_cost_25 : decode cX2_cost 25 = .ok (.invokespecial 80, 3) := by decide +kernel
theorem dX2_cost_28 : decode cX2_cost 28 = .ok (.athrow, 1) := by decide +kernel
theorem dX2_cost_29 : decode cX2_cost 29 = .ok (.lconst 0, 1) := by decide +kernel
theorem dX2_cost_30 : decode cX2_cost 30 = .ok (.lstore 4, 2) := by decide +kernel
theorem dX2_cost_32 : decode cX2_cost 32 = .ok (.iconst 0, 1) := by decide +kernel
theorem dX2_cost_33 : decode cX2_cost 33 = .ok (.istore 6, 2) := by decide +kernel
theorem dX2_cost_35 : decode cX2_cost 35 = .ok (.iload 6, 2) := by decide +kernel
theorem dX2_cost_37 : decode cX2_cost 37 = .ok (.aload_n 0, 1) := by decide +kernel
theorem dX2_cost_38 : decode cX2_cost 38 = .ok (.getfield 44, 3) := by decide +kernel
theorem dX2_cost_41 : decode cX2_cost 41 = .ok (.if_icmp .ge 40, 3) := by decide +kernel
theorem dX2_cost_44 : decode cX2_cost 44 = .ok (.aload_n 0, 1) := by decide +kernel
theorem dX2_cost_45 : decode cX2_cost 45 = .ok (.getfield 40, 3) := by decide +kernel
theorem dX2_cost_48 : decode cX2_cost 48 = .ok (.iload 6, 2) := by decide +kernel
theorem dX2_cost_50 : decode cX2_cost 50 = .ok (.iaload, 1) := by decide +kernel
theorem dX2_cost_51 : decode cX2_cost 51 = .ok (.ifCond .le 24, 3) := by decide +kernel
theorem dX2_cost_54 : decode cX2_cost 54 = .ok (.lload 4, 2) := by decide +kernel
theorem dX2_cost_56 : decode cX2_cost 56 = .ok (.aload_n 0, 1) := by decide +kernel
theorem dX2_cost_57 : decode cX2_cost 57 = .ok (.getfield 40, 3) := by decide +kernel
theorem dX2_cost_60 : decode cX2_cost 60 = .ok (.iload 6, 2) := by decide +kernel
theorem dX2_cost_62 : decode cX2_cost 62 = .ok (.iaload, 1) := by decide +kernel
theorem dX2_cost_63 : decode cX2_cost 63 = .ok (.i2l, 1) := by decide +kernel
theorem dX2_cost_64 : decode cX2_cost 64 = .ok (.aload_n 0, 1) := by decide +kernel
theorem dX2_cost_65 : decode cX2_cost 65 = .ok (.getfield 36, 3) := by decide +kernel
theorem dX2_cost_68 : decode cX2_cost 68 = .ok (.iload 6, 2) := by decide +kernel
theorem dX2_cost_70 : decode cX2_cost 70 = .ok (.laload, 1) := by decide +kernel
theorem dX2_cost_71 : decode cX2_cost 71 = .ok (.lmul, 1) := by decide +kernel
theorem dX2_cost_72 : decode cX2_cost 72 = .ok (.ladd, 1) := by decide +kernel
theorem dX2_cost_73 : decode cX2_cost 73 = .ok (.lstore 4, 2) := by decide +kernel
theorem dX2_cost_75 : decode cX2_cost 75 = .ok (.iinc 6 1, 3) := by decide +kernel
theorem dX2_cost_78 : decode cX2_cost 78 = .ok (.goto (-43), 3) := by decide +kernel
theorem dX2_cost_81 : decode cX2_cost 81 = .ok (.lload 4, 2) := by decide +kernel
theorem dX2_cost_83 : decode cX2_cost 83 = .ok (.lreturn, 1) := by decide +kernel
set_option maxRecDepth 20000 in
theorem ggX2_tree_X2_within : GoodIn wsX2_tree wsX2_within := goodIn_r _ [8] (by decide +kernel) (by decide +kernel)
set_option maxRecDepth 20000 in
theorem gX2_tree_X2_within : GoodIn wsX2_tree (va_wsS RX2 47 yX2_within wsX2_within) := goodIn_app (goodIn_of _ (by decide +kernel)) ggX2_tree_X2_within
set_option maxRecDepth 20000 in
theorem ggX2_tree_X2_isRate : GoodIn wsX2_tree wsX2_isRate := goodIn_r _ [11, 5, 6, 7, 8] (by decide +kernel) (by decide +kernel)
set_option maxRecDepth 20000 in
theorem gX2_tree_X2_isRate : GoodIn wsX2_tree (va_wsS RX2 115 yX2_isRate wsX2_isRate) := goodIn_app (goodIn_of _ (by decide +kernel)) ggX2_tree_X2_isRate
set_option maxRecDepth 20000 in
theorem ggX2_tree_X1_change : GoodIn wsX2_tree wsX1_change := goodIn_r _ [16, 17, 18, 19, 20, 21, 31, 32, 33, 34, 35, 36, 37, 38, 39, 40, 41, 42] (by decide +kernel) (by decide +kernel)
set_option maxRecDepth 20000 in
theorem gX2_tree_X1_change : GoodIn wsX2_tree (wsV RX2 185 RX1 yX1_change wsX1_change) := goodIn_app (goodIn_of _ (by decide +kernel)) ggX2_tree_X1_change
theorem dX2_tree_0 : decode cX2_tree 0 = .ok (.iload_n 1, 1) := by decide +kernel
theorem dX2_tree_1 : decode cX2_tree 1 = .ok (.iconst 0, 1) := by decide +kernel
theorem dX2_tree_2 : decode cX2_tree 2 = .ok (.bipush 20, 2) := by decide +kernel
theorem dX2_tree_4 : decode cX2_tree 4 = .ok (.invokestatic 47, 3) := by decide +kernel
theorem dX2_tree_7 : decode cX2_tree 7 = .ok (.ifCond .eq 43, 3) := by decide +kernel
theorem dX2_tree_10 : decode cX2_tree 10 = .ok (.iload_n 2, 1) := by decide +kernel
theorem dX2_tree_11 : decode cX2_tree 11 = .ok (.invokestatic 115, 3) := by decide +kernel
theorem dX2_tree_14 : decode cX2_tree 14 = .ok (.ifCond .eq 36, 3) := by decide +kernel
theorem dX2_tree_17 : decode cX2_tree 17 = .ok (.iload_n 3, 1) := by decide +kernel
theorem dX2_tree_18 : decode cX2_tree 18 = .ok (.iconst 0, 1) := by decide +kernel
theorem dX2_tree_19 : decode cX2_tree 19 = .ok (.bipush 50, 2) := by decide +kernel
theorem dX2_tree_21 : decode cX2_tree 21 = .ok (.invokestatic 47, 3) := by decide +kernel
theorem dX2_tree_24 : decode cX2_tree 24 = .ok (.ifCond .eq 26, 3) := by decide +kernel
theorem dX2_tree_27 : decode cX2_tree 27 = .ok (.iload 4, 2) := by decide +kernel
theorem dX2_tree_29 : decode cX2_tree 29 = .ok (.ldc 182, 2) := by decide +kernel
theorem dX2_tree_31 : decode cX2_tree 31 = .ok (.ldc 183, 2) := by decide +kernel
theorem dX2_tree_33 : decode cX2_tree 33 = .ok (.invokestatic 47, 3) := by decide +kernel
theorem dX2_tree_36 : decode cX2_tree 36 = .ok (.ifCond .eq 14, 3) := by decide +kernel
theorem dX2_tree_39 : decode cX2_tree 39 = .ok (.iload 5, 2) := by decide +kernel
theorem dX2_tree_41 : decode cX2_tree 41 = .ok (.iconst 0, 1) := by decide +kernel
theorem dX2_tree_42 : decode cX2_tree 42 = .ok (.ldc 184, 2) := by decide +kernel
theorem dX2_tree_44 : decode cX2_tree 44 = .ok (.invokestatic 47, 3) := by decide +kernel
theorem dX2_tree_47 : decode cX2_tree 47 = .ok (.ifCond .ne 5, 3) := by decide +kernel
theorem dX2_tree_50 : decode cX2_tree 50 = .ok (.iconst 0, 1) := by decide +kernel
theorem dX2_tree_51 : decode cX2_tree 51 = .ok (.ireturn, 1) := by decide +kernel
theorem dX2_tree_52 : decode cX2_tree 52 = .ok (.aload_n 0, 1) := by decide +kernel
theorem dX2_tree_53 : decode cX2_tree 53 = .ok (.getfield 28, 3) := by decide +kernel
theorem dX2_tree_56 : decode cX2_tree 56 = .ok (.iload_n 1, 1) := by decide +kernel
theorem dX2_tree_57 : decode cX2_tree 57 = .ok (.iload_n 2, 1) := by decide +kernel
theorem dX2_tree_58 : decode cX2_tree 58 = .ok (.iload_n 3, 1) := by decide +kernel
theorem dX2_tree_59 : decode cX2_tree 59 = .ok (.iload 4, 2) := by decide +kernel
theorem dX2_tree_61 : decode cX2_tree 61 = .ok (.iload 5, 2) := by decide +kernel
theorem dX2_tree_63 : decode cX2_tree 63 = .ok (.invokevirtual 185, 3) := by decide +kernel
theorem dX2_tree_66 : decode cX2_tree 66 = .ok (.ireturn, 1) := by decide +kernel
set_option maxRecDepth 20000 in
theorem ggX2_rate_X1_hasNode : GoodIn wsX2_rate wsX1_hasNode := goodIn_r _ [6, 7, 8, 9, 5, 10, 11, 12, 13, 14, 41, 42, 43, 44, 45, 46, 47, 48, 49, 50, 51, 52] (by decide +kernel) (by decide +kernel)
set_option maxRecDepth 20000 in
theorem gX2_rate_X1_hasNode : GoodIn wsX2_rate (wsV RX2 189 RX1 yX1_hasNode wsX1_hasNode) := goodIn_app (goodIn_of _ (by decide +kernel)) ggX2_rate_X1_hasNode
set_option maxRecDepth 20000 in
theorem ggX2_rate_X1_level : GoodIn wsX2_rate wsX1_level := goodIn_r _ [18, 11, 41, 42, 43, 44, 45, 46, 47, 48, 49, 50, 51, 52] (by decide +kernel) (by decide +kernel)
set_option maxRecDepth 20000 in
theorem gX2_rate_X1_level : GoodIn wsX2_rate (wsV RX2 192 RX1 yX1_level wsX1_level) := goodIn_app (goodIn_of _ (by decide +kernel)) ggX2_rate_X1_level
set_option maxRecDepth 20000 in
theorem ggX2_rate_X1_rateAt : GoodIn wsX2_rate wsX1_rateAt := goodIn_r _ [22, 23, 24, 11, 25, 26, 27, 28, 29, 30, 31, 41, 42, 43, 44, 45, 46, 47, 48, 49, 50, 51, 52] (by decide +kernel) (by decide +kernel)
set_option maxRecDepth 20000 in
theorem gX2_rate_X1_rateAt : GoodIn wsX2_rate (wsV RX2 195 RX1 yX1_rateAt wsX1_rateAt) := goodIn_app (goodIn_of _ (by decide +kernel)) ggX2_rate_X1_rateAt
theorem dX2_rate_0 : decode cX2_rate 0 = .ok (.aload_n 0, 1) := by decide +kernel
theorem dX2_rate_1 : decode cX2_rate 1 = .ok (.getfield 28, 3) := by decide +kernel
theorem dX2_rate_4 : decode cX2_rate 4 = .ok (.iload_n 1, 1) := by decide +kernel
theorem dX2_rate_5 : decode cX2_rate 5 = .ok (.iload_n 2, 1) := by decide +kernel
theorem dX2_rate_6 : decode cX2_rate 6 = .ok (.invokevirtual 189, 3) := by decide +kernel
theorem dX2_rate_9 : decode cX2_rate 9 = .ok (.ifCond .eq 22, 3) := by decide +kernel
theorem dX2_rate_12 : decode cX2_rate 12 = .ok (.aload_n 0, 1) := by decide +kernel
theorem dX2_rate_13 : decode cX2_rate 13 = .ok (.getfield 28, 3) := by decide +kernel
theorem dX2_rate_16 : decode cX2_rate 16 = .ok (.aload_n 0, 1) := by decide +kernel
theorem dX2_rate_17 : decode cX2_rate 17 = .ok (.getfield 28, 3) := by decide +kernel
theorem dX2_rate_20 : decode cX2_rate 20 = .ok (.iload_n 1, 1) := by decide +kernel
theorem dX2_rate_21 : decode cX2_rate 21 = .ok (.iload_n 2, 1) := by decide +kernel
theorem dX2_rate_22 : decode cX2_rate 22 = .ok (.invokevirtual 192, 3) := by decide +kernel
theorem dX2_rate_25 : decode cX2_rate 25 = .ok (.invokevirtual 195, 3) := by decide +kernel
theorem dX2_rate_28 : decode cX2_rate 28 = .ok (.goto 4, 3) := by decide +kernel
theorem dX2_rate_31 : decode cX2_rate 31 = .ok (.iconst (-1), 1) := by decide +kernel
theorem dX2_rate_32 : decode cX2_rate 32 = .ok (.ireturn, 1) := by decide +kernel
set_option maxRecDepth 20000 in
theorem ggX2_value_X2_eligibleBits : GoodIn wsX2_value wsX2_eligibleBits := goodIn_r _ [9, 10, 11, 12, 13, 8, 14, 15, 16, 17, 18, 19, 20, 21, 22, 23, 115, 116, 117, 118, 119, 120, 121, 122, 123, 136, 137, 138, 139, 140, 141, 142, 143, 144, 145] (by decide +kernel) (by decide +kernel)
set_option maxRecDepth 20000 in
theorem gX2_value_X2_eligibleBits : GoodIn wsX2_value (wsV RX2 122 RX2 yX2_eligibleBits wsX2_eligibleBits) := goodIn_app (goodIn_of _ (by decide +kernel)) ggX2_value_X2_eligibleBits
set_option maxRecDepth 20000 in
theorem ggX2_value_X1_hasNode : GoodIn wsX2_value wsX1_hasNode := goodIn_r _ [28, 29, 30, 31, 27, 32, 33, 22, 8, 23, 124, 125, 126, 127, 128, 129, 130, 131, 132, 133, 134, 135] (by decide +kernel) (by decide +kernel)
set_option maxRecDepth 20000 in
theorem gX2_value_X1_hasNode : GoodIn wsX2_value (wsV RX2 189 RX1 yX1_hasNode wsX1_hasNode) := goodIn_app (goodIn_of _ (by decide +kernel)) ggX2_value_X1_hasNode
set_option maxRecDepth 20000 in
theorem ggX2_value_X2_valueBy : GoodIn wsX2_value wsX2_valueBy := goodIn_r _ [37, 3, 15, 10, 38, 39, 40, 41, 42, 27, 43, 33, 44, 45, 46, 47, 48, 49, 50, 51, 52, 53, 54, 55, 56, 57, 58, 59, 60, 61, 62, 63, 64, 65, 66, 67, 68, 69, 22, 8, 23, 70, 71, 72, 73, 74, 75, 76, 77, 78, 79, 80, 81, 82, 83, 84, 85, 86, 87, 88, 89, 90, 91, 92, 93, 94, 95, 96, 97, 98, 99, 100, 101, 102, 103, 104, 105, 106, 107, 108, 109, 110, 111, 112, 113, 114, 115, 116, 117, 118, 119, 120, 121, 122, 123, 124, 125, 126, 127, 128, 129, 130, 131, 132, 133, 134, 135, 136, 137, 138, 139, 140, 141, 142, 143, 144, 145] (by decide +kernel) (by decide +kernel)
set_option maxRecDepth 20000 in
theorem gX2_value_X2_valueBy : GoodIn wsX2_value (wsV RX2 200 RX2 yX2_valueBy wsX2_valueBy) := goodIn_app (goodIn_of _ (by decide +kernel)) ggX2_value_X2_valueBy
theorem dX2_value_0 : decode cX2_value 0 = .ok (.aload_n 0, 1) := by decide +kernel
theorem dX2_value_1 : decode cX2_value 1 = .ok (.invokevirtual 122, 3) := by decide +kernel
theorem dX2_value_4 : decode cX2_value 4 = .ok (.istore_n 3, 1) := by decide +kernel
theorem dX2_value_5 : decode cX2_value 5 = .ok (.aload_n 0, 1) := by decide +kernel
theorem dX2_value_6 : decode cX2_value 6 = .ok (.getfield 28, 3) := by decide +kernel
theorem dX2_value_9 : decode cX2_value 9 = .ok (.iload_n 1, 1) := by decide +kernel
theorem dX2_value_10 : decode cX2_value 10 = .ok (.iload_n 2, 1) := by decide +kernel
theorem dX2_value_11 : decode cX2_value 11 = .ok (.invokevirtual 189, 3) := by decide +kernel
theorem dX2_value_14 : decode cX2_value 14 = .ok (.ifCond .eq 7, 3) := by decide +kernel
theorem dX2_value_17 : decode cX2_value 17 = .ok (.iload_n 3, 1) := by decide +kernel
theorem dX2_value_18 : decode cX2_value 18 = .ok (.ifCond .ne 13, 3) := by decide +kernel
theorem dX2_value_21 : decode cX2_value 21 = .ok (.new 76, 3) := by decide +kernel
theorem dX2_value_24 : decode cX2_value 24 = .ok (.dup, 1) := by decide +kernel
theorem dX2_value_25 : decode cX2_value 25 = .ok (.ldc 198, 2) := by decide +kernel
theorem dX2_value_27 : decode cX2_value 27 = .ok (.invokespecial 80, 3) := by decide +kernel
theorem dX2_value_30 : decode cX2_value 30 = .ok (.athrow, 1) := by decide +kernel
theorem dX2_value_31 : decode cX2_value 31 = .ok (.aload_n 0, 1) := by decide +kernel
theorem dX2_value_32 : decode cX2_value 32 = .ok (.iload_n 3, 1) := by decide +kernel
theorem dX2_value_33 : decode cX2_value 33 = .ok (.invokevirtual 200, 3) := by decide +kernel
theorem dX2_value_36 : decode cX2_value 36 = .ok (.pop2, 1) := by decide +kernel
theorem dX2_value_37 : decode cX2_value 37 = .ok (.aload_n 0, 1) := by decide +kernel
theorem dX2_value_38 : decode cX2_value 38 = .ok (.getfield 28, 3) := by decide +kernel
theorem dX2_value_41 : decode cX2_value 41 = .ok (.getfield 204, 3) := by decide +kernel
theorem dX2_value_44 : decode cX2_value 44 = .ok (.iload_n 1, 1) := by decide +kernel
theorem dX2_value_45 : decode cX2_value 45 = .ok (.aaload, 1) := by decide +kernel
theorem dX2_value_46 : decode cX2_value 46 = .ok (.iload_n 2, 1) := by decide +kernel
theorem dX2_value_47 : decode cX2_value 47 = .ok (.laload, 1) := by decide +kernel
theorem dX2_value_48 : decode cX2_value 48 = .ok (.lreturn, 1) := by decide +kernel
set_option maxRecDepth 20000 in
theorem ggX2_act_X2_eligibleBits : GoodIn wsX2_act wsX2_eligibleBits := goodIn_r _ [7, 8, 9, 10, 11, 6, 12, 13, 14, 15, 16, 17, 18, 19, 20, 21, 113, 114, 115, 116, 117, 118, 119, 120, 121, 134, 135, 136, 137, 138, 139, 140, 141, 142, 143] (by decide +kernel) (by decide +kernel)
set_option maxRecDepth 20000 in
theorem gX2_act_X2_eligibleBits : GoodIn wsX2_act (wsV RX2 122 RX2 yX2_eligibleBits wsX2_eligibleBits) := goodIn_app (goodIn_of _ (by decide +kernel)) ggX2_act_X2_eligibleBits
set_option maxRecDepth 20000 in
theorem ggX2_act_X1_hasNode : GoodIn wsX2_act wsX1_hasNode := goodIn_r _ [26, 27, 28, 29, 25, 30, 31, 20, 6, 21, 122, 123, 124, 125, 126, 127, 128, 129, 130, 131, 132, 133] (by decide +kernel) (by decide +kernel)
set_option maxRecDepth 20000 in
theorem gX2_act_X1_hasNode : GoodIn wsX2_act (wsV RX2 189 RX1 yX1_hasNode wsX1_hasNode) := goodIn_app (goodIn_of _ (by decide +kernel)) ggX2_act_X1_hasNode
set_option maxRecDepth 20000 in
theorem ggX2_act_X2_valueBy : GoodIn wsX2_act wsX2_valueBy := goodIn_r _ [35, 1, 13, 8, 36, 37, 38, 39, 40, 25, 41, 31, 42, 43, 44, 45, 46, 47, 48, 49, 50, 51, 52, 53, 54, 55, 56, 57, 58, 59, 60, 61, 62, 63, 64, 65, 66, 67, 20, 6, 21, 68, 69, 70, 71, 72, 73, 74, 75, 76, 77, 78, 79, 80, 81, 82, 83, 84, 85, 86, 87, 88, 89, 90, 91, 92, 93, 94, 95, 96, 97, 98, 99, 100, 101, 102, 103, 104, 105, 106, 107, 108, 109, 110, 111, 112, 113, 114, 115, 116, 117, 118, 119, 120, 121, 122, 123, 124, 125, 126, 127, 128, 129, 130, 131, 132, 133, 134, 135, 136, 137, 138, 139, 140, 141, 142, 143] (by decide +kernel) (by decide +kernel)
set_option maxRecDepth 20000 in
theorem gX2_act_X2_valueBy : GoodIn wsX2_act (wsV RX2 200 RX2 yX2_valueBy wsX2_valueBy) := goodIn_app (goodIn_of _ (by decide +kernel)) ggX2_act_X2_valueBy
theorem dX2_act_0 : decode cX2_act 0 = .ok (.aload_n 0, 1) := by decide +kernel
theorem dX2_act_1 : decode cX2_act 1 = .ok (.invokevirtual 122, 3) := by decide +kernel
theorem dX2_act_4 : decode cX2_act 4 = .ok (.istore_n 3, 1) := by decide +kernel
theorem dX2_act_5 : decode cX2_act 5 = .ok (.aload_n 0, 1) := by decide +kernel
theorem dX2_act_6 : decode cX2_act 6 = .ok (.getfield 28, 3) := by decide +kernel
theorem dX2_act_9 : decode cX2_act 9 = .ok (.iload_n 1, 1) := by decide +kernel
theorem dX2_act_10 : decode cX2_act 10 = .ok (.iload_n 2, 1) := by decide +kernel
theorem dX2_act_11 : decode cX2_act 11 = .ok (.invokevirtual 189, 3) := by decide +kernel
theorem dX2_act_14 : decode cX2_act 14 = .ok (.ifCond .eq 7, 3) := by decide +kernel
theorem dX2_act_17 : decode cX2_act 17 = .ok (.iload_n 3, 1) := by decide +kernel
theorem dX2_act_18 : decode cX2_act 18 = .ok (.ifCond .ne 5, 3) := by decide +kernel
theorem dX2_act_21 : decode cX2_act 21 = .ok (.iconst (-1), 1) := by decide +kernel
theorem dX2_act_22 : decode cX2_act 22 = .ok (.ireturn, 1) := by decide +kernel
theorem dX2_act_23 : decode cX2_act 23 = .ok (.aload_n 0, 1) := by decide +kernel
theorem dX2_act_24 : decode cX2_act 24 = .ok (.iload_n 3, 1) := by decide +kernel
theorem dX2_act_25 : decode cX2_act 25 = .ok (.invokevirtual 200, 3) := by decide +kernel
theorem dX2_act_28 : decode cX2_act 28 = .ok (.pop2, 1) := by decide +kernel
theorem dX2_act_29 : decode cX2_act 29 = .ok (.aload_n 0, 1) := by decide +kernel
theorem dX2_act_30 : decode cX2_act 30 = .ok (.getfield 28, 3) := by decide +kernel
theorem dX2_act_33 : decode cX2_act 33 = .ok (.getfield 208, 3) := by decide +kernel
theorem dX2_act_36 : decode cX2_act 36 = .ok (.iload_n 1, 1) := by decide +kernel
theorem dX2_act_37 : decode cX2_act 37 = .ok (.aaload, 1) := by decide +kernel
theorem dX2_act_38 : decode cX2_act 38 = .ok (.iload_n 2, 1) := by decide +kernel
theorem dX2_act_39 : decode cX2_act 39 = .ok (.iaload, 1) := by decide +kernel
theorem dX2_act_40 : decode cX2_act 40 = .ok (.ireturn, 1) := by decide +kernel
set_option maxRecDepth 20000 in
theorem ggX2_path_X2_eligibleBits : GoodIn wsX2_path wsX2_eligibleBits := goodIn_r _ [8, 9, 10, 11, 12, 7, 13, 14, 15, 16, 17, 18, 19, 20, 21, 22, 105, 106, 107, 108, 109, 110, 111, 112, 113, 126, 127, 128, 129, 130, 131, 132, 133, 134, 135] (by decide +kernel) (by decide +kernel)
set_option maxRecDepth 20000 in
theorem gX2_path_X2_eligibleBits : GoodIn wsX2_path (wsV RX2 122 RX2 yX2_eligibleBits wsX2_eligibleBits) := goodIn_app (goodIn_of _ (by decide +kernel)) ggX2_path_X2_eligibleBits
set_option maxRecDepth 20000 in
theorem ggX2_path_X2_within : GoodIn wsX2_path wsX2_within := goodIn_r _ [22] (by decide +kernel) (by decide +kernel)
set_option maxRecDepth 20000 in
theorem gX2_path_X2_within : GoodIn wsX2_path (va_wsS RX2 47 yX2_within wsX2_within) := goodIn_app (goodIn_of _ (by decide +kernel)) ggX2_path_X2_within
set_option maxRecDepth 20000 in
theorem ggX2_path_X2_valueBy : GoodIn wsX2_path wsX2_valueBy := goodIn_r _ [26, 1, 14, 9, 27, 2, 28, 29, 30, 31, 32, 33, 34, 35, 36, 37, 38, 39, 40, 41, 42, 43, 44, 45, 46, 47, 48, 49, 50, 51, 52, 53, 54, 55, 56, 57, 58, 59, 21, 7, 22, 60, 61, 62, 63, 64, 65, 66, 67, 68, 69, 70, 71, 72, 73, 74, 75, 76, 77, 78, 79, 80, 81, 82, 83, 84, 85, 86, 87, 88, 89, 90, 91, 92, 93, 94, 95, 96, 97, 98, 99, 100, 101, 102, 103, 104, 105, 106, 107, 108, 109, 110, 111, 112, 113, 114, 115, 116, 117, 118, 119, 120, 121, 122, 123, 124, 125, 126, 127, 128, 129, 130, 131, 132, 133, 134, 135] (by decide +kernel) (by decide +kernel)
set_option maxRecDepth 20000 in
theorem gX2_path_X2_valueBy : GoodIn wsX2_path (wsV RX2 200 RX2 yX2_valueBy wsX2_valueBy) := goodIn_app (goodIn_of _ (by decide +kernel)) ggX2_path_X2_valueBy
theorem dX2_path_0 : decode cX2_path 0 = .ok (.aload_n 0, 1) := by decide +kernel
theorem dX2_path_1 : decode cX2_path 1 = .ok (.invokevirtual 122, 3) := by decide +kernel
theorem dX2_path_4 : decode cX2_path 4 = .ok (.istore_n 3, 1) := by decide +kernel
theorem dX2_path_5 : decode cX2_path 5 = .ok (.iload_n 1, 1) := by decide +kernel
theorem dX2_path_6 : decode cX2_path 6 = .ok (.iconst 0, 1) := by decide +kernel
theorem dX2_path_7 : decode cX2_path 7 = .ok (.iconst 1, 1) := by decide +kernel
theorem dX2_path_8 : decode cX2_path 8 = .ok (.aload_n 0, 1) := by decide +kernel
theorem dX2_path_9 : decode cX2_path 9 = .ok (.getfield 28, 3) := by decide +kernel
theorem dX2_path_12 : decode cX2_path 12 = .ok (.getfield 129, 3) := by decide +kernel
theorem dX2_path_15 : decode cX2_path 15 = .ok (.ishl, 1) := by decide +kernel
theorem dX2_path_16 : decode cX2_path 16 = .ok (.iconst 1, 1) := by decide +kernel
theorem dX2_path_17 : decode cX2_path 17 = .ok (.isub, 1) := by decide +kernel
theorem dX2_path_18 : decode cX2_path 18 = .ok (.invokestatic 47, 3) := by decide +kernel
theorem dX2_path_21 : decode cX2_path 21 = .ok (.ifCond .eq 7, 3) := by decide +kernel
theorem dX2_path_24 : decode cX2_path 24 = .ok (.iload_n 3, 1) := by decide +kernel
theorem dX2_path_25 : decode cX2_path 25 = .ok (.ifCond .ne 5, 3) := by decide +kernel
theorem dX2_path_28 : decode cX2_path 28 = .ok (.iconst (-1), 1) := by decide +kernel
theorem dX2_path_29 : decode cX2_path 29 = .ok (.ireturn, 1) := by decide +kernel
theorem dX2_path_30 : decode cX2_path 30 = .ok (.aload_n 0, 1) := by decide +kernel
theorem dX2_path_31 : decode cX2_path 31 = .ok (.iload_n 3, 1) := by decide +kernel
theorem dX2_path_32 : decode cX2_path 32 = .ok (.invokevirtual 200, 3) := by decide +kernel
theorem dX2_path_35 : decode cX2_path 35 = .ok (.pop2, 1) := by decide +kernel
theorem dX2_path_36 : decode cX2_path 36 = .ok (.iconst 0, 1) := by decide +kernel
theorem dX2_path_37 : decode cX2_path 37 = .ok (.istore 4, 2) := by decide +kernel
theorem dX2_path_39 : decode cX2_path 39 = .ok (.iconst 0, 1) := by decide +kernel
theorem dX2_path_40 : decode cX2_path 40 = .ok (.istore 5, 2) := by decide +kernel
theorem dX2_path_42 : decode cX2_path 42 = .ok (.iload 5, 2) := by decide +kernel
theorem dX2_path_44 : decode cX2_path 44 = .ok (.aload_n 0, 1) := by decide +kernel
theorem dX2_path_45 : decode cX2_path 45 = .ok (.getfield 28, 3) := by decide +kernel
theorem dX2_path_48 : decode cX2_path 48 = .ok (.getfield 129, 3) := by decide +kernel
theorem dX2_path_51 : decode cX2_path 51 = .ok (.if_icmp .gt 54, 3) := by decide +kernel
theorem dX2_path_54 : decode cX2_path 54 = .ok (.aload_n 0, 1) := by decide +kernel
theorem dX2_path_55 : decode cX2_path 55 = .ok (.getfield 28, 3) := by decide +kernel
theorem dX2_path_58 : decode cX2_path 58 = .ok (.getfield 208, 3) := by decide +kernel
theorem dX2_path_61 : decode cX2_path 61 = .ok (.iload 5, 2) := by decide +kernel
theorem dX2_path_63 : decode cX2_path 63 = .ok (.aaload, 1) := by decide +kernel
theorem dX2_path_64 : decode cX2_path 64 = .ok (.iload 4, 2) := by decide +kernel
theorem dX2_path_66 : decode cX2_path 66 = .ok (.iaload, 1) := by decide +kernel
theorem dX2_path_67 : decode cX2_path 67 = .ok (.istore 6, 2) := by decide +kernel
theorem dX2_path_69 : decode cX2_path 69 = .ok (.iload 6, 2) := by decide +kernel
theorem dX2_path_71 : decode cX2_path 71 = .ok (.bipush (-2), 2) := by decide +kernel
theorem dX2_path_73 : decode cX2_path 73 = .ok (.if_icmp .eq 15, 3) := by decide +kernel
theorem dX2_path_76 : decode cX2_path 76 = .ok (.iload_n 2, 1) := by decide +kernel
theorem dX2_path_77 : decode cX2_path 77 = .ok (.ifCond .eq 8, 3) := by decide +kernel
theorem dX2_path_80 : decode cX2_path 80 = .ok (.iload 6, 2) := by decide +kernel
theorem dX2_path_82 : decode cX2_path 82 = .ok (.goto 5, 3) := by decide +kernel
theorem dX2_path_85 : decode cX2_path 85 = .ok (.iload 5, 2) := by decide +kernel
theorem dX2_path_87 : decode cX2_path 87 = .ok (.ireturn, 1) := by decide +kernel
theorem dX2_path_88 : decode cX2_path 88 = .ok (.iload 4, 2) := by decide +kernel
theorem dX2_path_90 : decode cX2_path 90 = .ok (.iload_n 1, 1) := by decide +kernel
theorem dX2_path_91 : decode cX2_path 91 = .ok (.iload 5, 2) := by decide +kernel
theorem dX2_path_93 : decode cX2_path 93 = .ok (.ishr, 1) := by decide +kernel
theorem dX2_path_94 : decode cX2_path 94 = .ok (.iconst 1, 1) := by decide +kernel
theorem dX2_path_95 : decode cX2_path 95 = .ok (.iand, 1) := by decide +kernel
theorem dX2_path_96 : decode cX2_path 96 = .ok (.iadd, 1) := by decide +kernel
theorem dX2_path_97 : decode cX2_path 97 = .ok (.istore 4, 2) := by decide +kernel
theorem dX2_path_99 : decode cX2_path 99 = .ok (.iinc 5 1, 3) := by decide +kernel
theorem dX2_path_102 : decode cX2_path 102 = .ok (.goto (-60), 3) := by decide +kernel
theorem dX2_path_105 : decode cX2_path 105 = .ok (.iconst (-1), 1) := by decide +kernel
theorem dX2_path_106 : decode cX2_path 106 = .ok (.ireturn, 1) := by decide +kernel
set_option maxRecDepth 20000 in
theorem ggX2_often_X2_eligibleBits : GoodIn wsX2_often wsX2_eligibleBits := goodIn_r _ [6, 7, 8, 9, 10, 5, 11, 12, 13, 14, 15, 16, 17, 18, 19, 20, 117, 118, 119, 120, 121, 122, 123, 124, 125, 126, 127, 128, 129, 130, 131, 132, 133, 134, 135] (by decide +kernel) (by decide +kernel)
set_option maxRecDepth 20000 in
theorem gX2_often_X2_eligibleBits : GoodIn wsX2_often (wsV RX2 122 RX2 yX2_eligibleBits wsX2_eligibleBits) := goodIn_app (goodIn_of _ (by decide +kernel)) ggX2_often_X2_eligibleBits
set_option maxRecDepth 20000 in
theorem ggX2_often_X1_hasDay : GoodIn wsX2_often wsX1_hasDay := goodIn_r _ [25, 26, 19, 5, 20, 136, 137, 138, 139, 140, 141, 142, 143, 144, 145, 146, 147] (by decide +kernel) (by decide +kernel)
set_option maxRecDepth 20000 in
theorem gX2_often_X1_hasDay : GoodIn wsX2_often (wsV RX2 212 RX1 yX1_hasDay wsX1_hasDay) := goodIn_app (goodIn_of _ (by decide +kernel)) ggX2_often_X1_hasDay
set_option maxRecDepth 20000 in
theorem ggX2_often_X2_valueBy : GoodIn wsX2_often wsX2_valueBy := goodIn_r _ [30, 1, 12, 7, 31, 32, 33, 34, 35, 24, 36, 26, 37, 38, 39, 40, 41, 42, 43, 44, 45, 46, 47, 48, 49, 50, 51, 52, 53, 54, 55, 56, 57, 58, 59, 60, 61, 62, 19, 5, 20, 63, 64, 65, 66, 67, 68, 69, 70, 71, 72, 73, 74, 75, 76, 77, 78, 79, 80, 81, 82, 83, 84, 85, 86, 87, 88, 89, 90, 91, 92, 93, 94, 95, 96, 97, 98, 99, 100, 101, 102, 103, 104, 105, 106, 107, 117, 118, 119, 120, 121, 122, 123, 124, 125, 136, 137, 138, 139, 140, 141, 142, 143, 144, 145, 146, 147, 126, 127, 128, 129, 130, 131, 132, 133, 134, 135] (by decide +kernel) (by decide +kernel)
set_option maxRecDepth 20000 in
theorem gX2_often_X2_valueBy : GoodIn wsX2_often (wsV RX2 200 RX2 yX2_valueBy wsX2_valueBy) := goodIn_app (goodIn_of _ (by decide +kernel)) ggX2_often_X2_valueBy
set_option maxRecDepth 20000 in
theorem ggX2_often_X1_pathsThatEndOn : GoodIn wsX2_often wsX1_pathsThatEndOn := goodIn_r _ [111, 112, 95, 26, 113, 114, 115, 116, 136, 137, 138, 139, 140, 141, 142, 143, 144, 145, 146, 147] (by decide +kernel) (by decide +kernel)
set_option maxRecDepth 20000 in
theorem gX2_often_X1_pathsThatEndOn : GoodIn wsX2_often (wsV RX2 215 RX1 yX1_pathsThatEndOn wsX1_pathsThatEndOn) := goodIn_app (goodIn_of _ (by decide +kernel)) ggX2_often_X1_pathsThatEndOn
theorem dX2_often_0 : decode cX2_often 0 = .ok (.aload_n 0, 1) := by decide +kernel
theorem dX2_often_1 : decode cX2_often 1 = .ok (.invokevirtual 122, 3) := by decide +kernel
theorem dX2_often_4 : decode cX2_often 4 = .ok (.istore_n 2, 1) := by decide +kernel
theorem dX2_often_5 : decode cX2_often 5 = .ok (.aload_n 0, 1) := by decide +kernel
theorem dX2_often_6 : decode cX2_often 6 = .ok (.getfield 28, 3) := by decide +kernel
theorem dX2_often_9 : decode cX2_often 9 = .ok (.iload_n 1, 1) := by decide +kernel
theorem dX2_often_10 : decode cX2_often 10 = .ok (.invokevirtual 212, 3) := by decide +kernel
theorem dX2_often_13 : decode cX2_often 13 = .ok (.ifCond .eq 7, 3) := by decide +kernel
theorem dX2_often_16 : decode cX2_often 16 = .ok (.iload_n 2, 1) := by decide +kernel
theorem dX2_often_17 : decode cX2_often 17 = .ok (.ifCond .ne 5, 3) := by decide +kernel
theorem dX2_often_20 : decode cX2_often 20 = .ok (.iconst (-1), 1) := by decide +kernel
theorem dX2_often_21 : decode cX2_often 21 = .ok (.ireturn, 1) := by decide +kernel
theorem dX2_often_22 : decode cX2_often 22 = .ok (.aload_n 0, 1) := by decide +kernel
theorem dX2_often_23 : decode cX2_often 23 = .ok (.iload_n 2, 1) := by decide +kernel
theorem dX2_often_24 : decode cX2_often 24 = .ok (.invokevirtual 200, 3) := by decide +kernel
theorem dX2_often_27 : decode cX2_often 27 = .ok (.pop2, 1) := by decide +kernel
theorem dX2_often_28 : decode cX2_often 28 = .ok (.aload_n 0, 1) := by decide +kernel
theorem dX2_often_29 : decode cX2_often 29 = .ok (.getfield 28, 3) := by decide +kernel
theorem dX2_often_32 : decode cX2_often 32 = .ok (.iload_n 1, 1) := by decide +kernel
theorem dX2_often_33 : decode cX2_often 33 = .ok (.invokevirtual 215, 3) := by decide +kernel
theorem dX2_often_36 : decode cX2_often 36 = .ok (.ireturn, 1) := by decide +kernel
set_option maxRecDepth 20000 in
theorem ggX2_fixed_X2_eligibleBits : GoodIn wsX2_fixed wsX2_eligibleBits := goodIn_r _ [11, 5, 12, 13, 14, 10, 15, 4, 16, 17, 18, 19, 20, 21, 22, 23, 105, 106, 107, 108, 109, 110, 111, 112, 113, 126, 127, 128, 129, 130, 131, 132, 133, 134, 135] (by decide +kernel) (by decide +kernel)
set_option maxRecDepth 20000 in
theorem gX2_fixed_X2_eligibleBits : GoodIn wsX2_fixed (wsV RX2 122 RX2 yX2_eligibleBits wsX2_eligibleBits) := goodIn_app (goodIn_of _ (by decide +kernel)) ggX2_fixed_X2_eligibleBits
set_option maxRecDepth 20000 in
theorem ggX2_fixed_X1_hasDay : GoodIn wsX2_fixed wsX1_hasDay := goodIn_r _ [28, 29, 22, 10, 23, 114, 115, 116, 117, 118, 119, 120, 121, 122, 123, 124, 125] (by decide +kernel) (by decide +kernel)
set_option maxRecDepth 20000 in
theorem gX2_fixed_X1_hasDay : GoodIn wsX2_fixed (wsV RX2 212 RX1 yX1_hasDay wsX1_hasDay) := goodIn_app (goodIn_of _ (by decide +kernel)) ggX2_fixed_X1_hasDay
set_option maxRecDepth 20000 in
theorem ggX2_fixed_X1_layPrices : GoodIn wsX2_fixed wsX1_layPrices := goodIn_r _ [33, 29, 34, 35, 36, 37, 27, 38, 39, 40, 41, 42, 43, 44, 45, 46, 47, 48, 49, 50, 51, 52, 53, 54, 55, 56, 57, 58, 59, 22, 10, 23, 60, 61, 62, 63, 64, 65, 66, 114, 115, 116, 117, 118, 119, 120, 121, 122, 123, 124, 125, 126, 127, 128, 129, 130, 131, 132, 133, 134, 135] (by decide +kernel) (by decide +kernel)
set_option maxRecDepth 20000 in
theorem gX2_fixed_X1_layPrices : GoodIn wsX2_fixed (wsV RX2 220 RX1 yX1_layPrices wsX1_layPrices) := goodIn_app (goodIn_of _ (by decide +kernel)) ggX2_fixed_X1_layPrices
set_option maxRecDepth 20000 in
theorem ggX2_fixed_X1_layNow : GoodIn wsX2_fixed wsX1_layNow := goodIn_r _ [70, 71, 29, 72, 73, 34, 74, 10, 75, 76, 77, 78, 51, 79, 80, 66, 81, 82, 83, 27, 84, 114, 115, 116, 117, 118, 119, 120, 121, 122, 123, 124, 125, 126, 127, 128, 129, 130, 131, 132, 133, 134, 135] (by decide +kernel) (by decide +kernel)
set_option maxRecDepth 20000 in
theorem gX2_fixed_X1_layNow : GoodIn wsX2_fixed (wsV RX2 223 RX1 yX1_layNow wsX1_layNow) := goodIn_app (goodIn_of _ (by decide +kernel)) ggX2_fixed_X1_layNow
set_option maxRecDepth 20000 in
theorem ggX2_fixed_X1_rollBack : GoodIn wsX2_fixed wsX1_rollBack := goodIn_r _ [88, 89, 90, 91, 73, 92, 93, 94, 95, 27, 96, 72, 97, 98, 99, 100, 29, 101, 102, 103, 104, 114, 115, 116, 117, 118, 119, 120, 121, 122, 123, 124, 125] (by decide +kernel) (by decide +kernel)
set_option maxRecDepth 20000 in
theorem gX2_fixed_X1_rollBack : GoodIn wsX2_fixed (wsV RX2 227 RX1 yX1_rollBack wsX1_rollBack) := goodIn_app (goodIn_of _ (by decide +kernel)) ggX2_fixed_X1_rollBack
theorem dX2_fixed_0 : decode cX2_fixed 0 = .ok (.aload_n 0, 1) := by decide +kernel
theorem dX2_fixed_1 : decode cX2_fixed 1 = .ok (.invokevirtual 122, 3) := by decide +kernel
theorem dX2_fixed_4 : decode cX2_fixed 4 = .ok (.istore_n 2, 1) := by decide +kernel
theorem dX2_fixed_5 : decode cX2_fixed 5 = .ok (.aload_n 0, 1) := by decide +kernel
theorem dX2_fixed_6 : decode cX2_fixed 6 = .ok (.getfield 28, 3) := by decide +kernel
theorem dX2_fixed_9 : decode cX2_fixed 9 = .ok (.iload_n 1, 1) := by decide +kernel
theorem dX2_fixed_10 : decode cX2_fixed 10 = .ok (.invokevirtual 212, 3) := by decide +kernel
theorem dX2_fixed_13 : decode cX2_fixed 13 = .ok (.ifCond .eq 7, 3) := by decide +kernel
theorem dX2_fixed_16 : decode cX2_fixed 16 = .ok (.iload_n 2, 1) := by decide +kernel
theorem dX2_fixed_17 : decode cX2_fixed 17 = .ok (.ifCond .ne 13, 3) := by decide +kernel
theorem dX2_fixed_20 : decode cX2_fixed 20 = .ok (.new 76, 3) := by decide +kernel
theorem dX2_fixed_23 : decode cX2_fixed 23 = .ok (.dup, 1) := by decide +kernel
theorem dX2_fixed_24 : decode cX2_fixed 24 = .ok (.ldc 218, 2) := by decide +kernel
theorem dX2_fixed_26 : decode cX2_fixed 26 = .ok (.invokespecial 80, 3) := by decide +kernel
theorem dX2_fixed_29 : decode cX2_fixed 29 = .ok (.athrow, 1) := by decide +kernel
theorem dX2_fixed_30 : decode cX2_fixed 30 = .ok (.aload_n 0, 1) := by decide +kernel
theorem dX2_fixed_31 : decode cX2_fixed 31 = .ok (.getfield 28, 3) := by decide +kernel
theorem dX2_fixed_34 : decode cX2_fixed 34 = .ok (.aload_n 0, 1) := by decide +kernel
theorem dX2_fixed_35 : decode cX2_fixed 35 = .ok (.getfield 11, 3) := by decide +kernel
theorem dX2_fixed_38 : decode cX2_fixed 38 = .ok (.aload_n 0, 1) := by decide +kernel
theorem dX2_fixed_39 : decode cX2_fixed 39 = .ok (.getfield 44, 3) := by decide +kernel
theorem dX2_fixed_42 : decode cX2_fixed 42 = .ok (.invokevirtual 220, 3) := by decide +kernel
theorem dX2_fixed_45 : decode cX2_fixed 45 = .ok (.aload_n 0, 1) := by decide +kernel
theorem dX2_fixed_46 : decode cX2_fixed 46 = .ok (.getfield 28, 3) := by decide +kernel
theorem dX2_fixed_49 : decode cX2_fixed 49 = .ok (.aload_n 0, 1) := by decide +kernel
theorem dX2_fixed_50 : decode cX2_fixed 50 = .ok (.getfield 11, 3) := by decide +kernel
theorem dX2_fixed_53 : decode cX2_fixed 53 = .ok (.iload_n 2, 1) := by decide +kernel
theorem dX2_fixed_54 : decode cX2_fixed 54 = .ok (.aload_n 0, 1) := by decide +kernel
theorem dX2_fixed_55 : decode cX2_fixed 55 = .ok (.getfield 28, 3) := by decide +kernel
theorem dX2_fixed_58 : decode cX2_fixed 58 = .ok (.getfield 141, 3) := by decide +kernel
theorem dX2_fixed_61 : decode cX2_fixed 61 = .ok (.invokevirtual 223, 3) := by decide +kernel
theorem dX2_fixed_64 : decode cX2_fixed 64 = .ok (.aload_n 0, 1) := by decide +kernel
theorem dX2_fixed_65 : decode cX2_fixed 65 = .ok (.getfield 28, 3) := by decide +kernel
theorem dX2_fixed_68 : decode cX2_fixed 68 = .ok (.iload_n 1, 1) := by decide +kernel
theorem dX2_fixed_69 : decode cX2_fixed 69 = .ok (.iconst 0, 1) := by decide +kernel
theorem dX2_fixed_70 : decode cX2_fixed 70 = .ok (.invokevirtual 227, 3) := by decide +kernel
theorem dX2_fixed_73 : decode cX2_fixed 73 = .ok (.lreturn, 1) := by decide +kernel
set_option maxRecDepth 20000 in
theorem ggX2_only_X2_has : GoodIn wsX2_only wsX2_has := goodIn_r _ [7, 8, 9, 10, 6, 11, 106, 107, 108, 109, 110, 111, 112, 113, 114] (by decide +kernel) (by decide +kernel)
set_option maxRecDepth 20000 in
theorem gX2_only_X2_has : GoodIn wsX2_only (wsV RX2 63 RX2 yX2_has wsX2_has) := goodIn_app (goodIn_of _ (by decide +kernel)) ggX2_only_X2_has
set_option maxRecDepth 20000 in
theorem ggX2_only_X2_isEligible : GoodIn wsX2_only wsX2_isEligible := goodIn_r _ [15, 16, 17, 18, 19, 20, 21, 9, 10, 6, 11, 106, 107, 108, 109, 110, 111, 112, 113, 114, 115, 116, 117, 118, 119, 120, 121, 122, 123, 124] (by decide +kernel) (by decide +kernel)
set_option maxRecDepth 20000 in
theorem gX2_only_X2_isEligible : GoodIn wsX2_only (wsV RX2 107 RX2 yX2_isEligible wsX2_isEligible) := goodIn_app (goodIn_of _ (by decide +kernel)) ggX2_only_X2_isEligible
set_option maxRecDepth 20000 in
theorem ggX2_only_X2_valueBy : GoodIn wsX2_only wsX2_valueBy := goodIn_r _ [25, 26, 16, 8, 27, 28, 29, 30, 31, 32, 33, 34, 35, 36, 37, 38, 39, 40, 41, 42, 43, 44, 45, 46, 47, 48, 49, 50, 51, 52, 53, 54, 55, 56, 57, 58, 59, 60, 10, 6, 11, 61, 62, 63, 64, 65, 66, 67, 68, 69, 70, 71, 72, 73, 74, 75, 76, 77, 78, 79, 80, 81, 82, 83, 84, 85, 86, 87, 88, 89, 90, 91, 92, 93, 94, 95, 96, 97, 98, 99, 100, 101, 102, 103, 104, 105, 106, 107, 108, 109, 110, 111, 112, 113, 114, 125, 126, 127, 128, 129, 130, 131, 132, 133, 134, 135, 136, 115, 116, 117, 118, 119, 120, 121, 122, 123, 124] (by decide +kernel) (by decide +kernel)
set_option maxRecDepth 20000 in
theorem gX2_only_X2_valueBy : GoodIn wsX2_only (wsV RX2 200 RX2 yX2_valueBy wsX2_valueBy) := goodIn_app (goodIn_of _ (by decide +kernel)) ggX2_only_X2_valueBy
theorem dX2_only_0 : decode cX2_only 0 = .ok (.aload_n 0, 1) := by decide +kernel
theorem dX2_only_1 : decode cX2_only 1 = .ok (.iload_n 1, 1) := by decide +kernel
theorem dX2_only_2 : decode cX2_only 2 = .ok (.invokevirtual 63, 3) := by decide +kernel
theorem dX2_only_5 : decode cX2_only 5 = .ok (.ifCond .eq 11, 3) := by decide +kernel
theorem dX2_only_8 : decode cX2_only 8 = .ok (.aload_n 0, 1) := by decide +kernel
theorem dX2_only_9 : decode cX2_only 9 = .ok (.iload_n 1, 1) := by decide +kernel
theorem dX2_only_10 : decode cX2_only 10 = .ok (.invokevirtual 107, 3) := by decide +kernel
theorem dX2_only_13 : decode cX2_only 13 = .ok (.ifCond .ne 13, 3) := by decide +kernel
theorem dX2_only_16 : decode cX2_only 16 = .ok (.new 76, 3) := by decide +kernel
theorem dX2_only_19 : decode cX2_only 19 = .ok (.dup, 1) := by decide +kernel
theorem dX2_only_20 : decode cX2_only 20 = .ok (.ldc 231, 2) := by decide +kernel
theorem dX2_only_22 : decode cX2_only 22 = .ok (.invokespecial 80, 3) := by decide +kernel
theorem dX2_only_25 : decode cX2_only 25 = .ok (.athrow, 1) := by decide +kernel
theorem dX2_only_26 : decode cX2_only 26 = .ok (.aload_n 0, 1) := by decide +kernel
theorem dX2_only_27 : decode cX2_only 27 = .ok (.iconst 1, 1) := by decide +kernel
theorem dX2_only_28 : decode cX2_only 28 = .ok (.iload_n 1, 1) := by decide +kernel
theorem dX2_only_29 : decode cX2_only 29 = .ok (.ishl, 1) := by decide +kernel
theorem dX2_only_30 : decode cX2_only 30 = .ok (.invokevirtual 200, 3) := by decide +kernel
theorem dX2_only_33 : decode cX2_only 33 = .ok (.lreturn, 1) := by decide +kernel
set_option maxRecDepth 20000 in
theorem ggX2_without_X2_has : GoodIn wsX2_without wsX2_has := goodIn_r _ [7, 8, 9, 10, 6, 11, 110, 111, 112, 113, 114, 115, 116, 117, 118] (by decide +kernel) (by decide +kernel)
set_option maxRecDepth 20000 in
theorem gX2_without_X2_has : GoodIn wsX2_without (wsV RX2 63 RX2 yX2_has wsX2_has) := goodIn_app (goodIn_of _ (by decide +kernel)) ggX2_without_X2_has
set_option maxRecDepth 20000 in
theorem ggX2_without_X2_isEligible : GoodIn wsX2_without wsX2_isEligible := goodIn_r _ [15, 16, 17, 18, 19, 20, 21, 9, 10, 6, 11, 110, 111, 112, 113, 114, 115, 116, 117, 118, 119, 120, 121, 122, 123, 124, 125, 126, 127, 128] (by decide +kernel) (by decide +kernel)
set_option maxRecDepth 20000 in
theorem gX2_without_X2_isEligible : GoodIn wsX2_without (wsV RX2 107 RX2 yX2_isEligible wsX2_isEligible) := goodIn_app (goodIn_of _ (by decide +kernel)) ggX2_without_X2_isEligible
set_option maxRecDepth 20000 in
theorem ggX2_without_X2_eligibleBits : GoodIn wsX2_without wsX2_eligibleBits := goodIn_r _ [25, 8, 12, 13, 14, 6, 15, 16, 17, 18, 19, 20, 21, 9, 10, 11, 110, 111, 112, 113, 114, 115, 116, 117, 118, 119, 120, 121, 122, 123, 124, 125, 126, 127, 128] (by decide +kernel) (by decide +kernel)
set_option maxRecDepth 20000 in
theorem gX2_without_X2_eligibleBits : GoodIn wsX2_without (wsV RX2 122 RX2 yX2_eligibleBits wsX2_eligibleBits) := goodIn_app (goodIn_of _ (by decide +kernel)) ggX2_without_X2_eligibleBits
set_option maxRecDepth 20000 in
theorem ggX2_without_X2_valueBy : GoodIn wsX2_without wsX2_valueBy := goodIn_r _ [29, 30, 16, 8, 31, 32, 33, 34, 35, 36, 37, 38, 39, 40, 41, 42, 43, 44, 45, 46, 47, 48, 49, 50, 51, 52, 53, 54, 55, 56, 57, 58, 59, 60, 61, 62, 63, 64, 10, 6, 11, 65, 66, 67, 68, 69, 70, 71, 72, 73, 74, 75, 76, 77, 78, 79, 80, 81, 82, 83, 84, 85, 86, 87, 88, 89, 90, 91, 92, 93, 94, 95, 96, 97, 98, 99, 100, 101, 102, 103, 104, 105, 106, 107, 108, 109, 110, 111, 112, 113, 114, 115, 116, 117, 118, 129, 130, 131, 132, 133, 134, 135, 136, 137, 138, 139, 140, 119, 120, 121, 122, 123, 124, 125, 126, 127, 128] (by decide +kernel) (by decide +kernel)
set_option maxRecDepth 20000 in
theorem gX2_without_X2_valueBy : GoodIn wsX2_without (wsV RX2 200 RX2 yX2_valueBy wsX2_valueBy) := goodIn_app (goodIn_of _ (by decide +kernel)) ggX2_without_X2_valueBy
theorem dX2_without_0 : decode cX2_without 0 = .ok (.aload_n 0, 1) := by decide +kernel
theorem dX2_without_1 : decode cX2_without 1 = .ok (.iload_n 1, 1) := by decide +kernel
theorem dX2_without_2 : decode cX2_without 2 = .ok (.invokevirtual 63, 3) := by decide +kernel
theorem dX2_without_5 : decode cX2_without 5 = .ok (.ifCond .ne 13, 3) := by decide +kernel
theorem dX2_without_8 : decode cX2_without 8 = .ok (.new 76, 3) := by decide +kernel
theorem dX2_without_11 : decode cX2_without 11 = .ok (.dup, 1) := by decide +kernel
theorem dX2_without_12 : decode cX2_without 12 = .ok (.ldc 78, 2) := by decide +kernel
theorem dX2_without_14 : decode cX2_without 14 = .ok (.invokespecial 80, 3) := by decide +kernel
theorem dX2_without_17 : decode cX2_without 17 = .ok (.athrow, 1) := by decide +kernel
theorem dX2_without_18 : decode cX2_without 18 = .ok (.aload_n 0, 1) := by decide +kernel
theorem dX2_without_19 : decode cX2_without 19 = .ok (.iload_n 1, 1) := by decide +kernel
theorem dX2_without_20 : decode cX2_without 20 = .ok (.invokevirtual 107, 3) := by decide +kernel
theorem dX2_without_23 : decode cX2_without 23 = .ok (.ifCond .ne 5, 3) := by decide +kernel
theorem dX2_without_26 : decode cX2_without 26 = .ok (.lconst 0, 1) := by decide +kernel
theorem dX2_without_27 : decode cX2_without 27 = .ok (.lreturn, 1) := by decide +kernel
theorem dX2_without_28 : decode cX2_without 28 = .ok (.aload_n 0, 1) := by decide +kernel
theorem dX2_without_29 : decode cX2_without 29 = .ok (.invokevirtual 122, 3) := by decide +kernel
theorem dX2_without_32 : decode cX2_without 32 = .ok (.istore_n 2, 1) := by decide +kernel
theorem dX2_without_33 : decode cX2_without 33 = .ok (.iload_n 2, 1) := by decide +kernel
theorem dX2_without_34 : decode cX2_without 34 = .ok (.iconst 1, 1) := by decide +kernel
theorem dX2_without_35 : decode cX2_without 35 = .ok (.iload_n 1, 1) := by decide +kernel
theorem dX2_without_36 : decode cX2_without 36 = .ok (.ishl, 1) := by decide +kernel
theorem dX2_without_37 : decode cX2_without 37 = .ok (.iconst (-1), 1) := by decide +kernel
theorem dX2_without_38 : decode cX2_without 38 = .ok (.ixor, 1) := by decide +kernel
theorem dX2_without_39 : decode cX2_without 39 = .ok (.iand, 1) := by decide +kernel
theorem dX2_without_40 : decode cX2_without 40 = .ok (.istore_n 3, 1) := by decide +kernel
theorem dX2_without_41 : decode cX2_without 41 = .ok (.iload_n 3, 1) := by decide +kernel
theorem dX2_without_42 : decode cX2_without 42 = .ok (.ifCond .ne 13, 3) := by decide +kernel
theorem dX2_without_45 : decode cX2_without 45 = .ok (.new 76, 3) := by decide +kernel
theorem dX2_without_48 : decode cX2_without 48 = .ok (.dup, 1) := by decide +kernel
theorem dX2_without_49 : decode cX2_without 49 = .ok (.ldc 233, 2) := by decide +kernel
theorem dX2_without_51 : decode cX2_without 51 = .ok (.invokespecial 80, 3) := by decide +kernel
theorem dX2_without_54 : decode cX2_without 54 = .ok (.athrow, 1) := by decide +kernel
theorem dX2_without_55 : decode cX2_without 55 = .ok (.aload_n 0, 1) := by decide +kernel
theorem dX2_without_56 : decode cX2_without 56 = .ok (.iload_n 2, 1) := by decide +kernel
theorem dX2_without_57 : decode cX2_without 57 = .ok (.invokevirtual 200, 3) := by decide +kernel
theorem dX2_without_60 : decode cX2_without 60 = .ok (.aload_n 0, 1) := by decide +kernel
theorem dX2_without_61 : decode cX2_without 61 = .ok (.iload_n 3, 1) := by decide +kernel
theorem dX2_without_62 : decode cX2_without 62 = .ok (.invokevirtual 200, 3) := by decide +kernel
theorem dX2_without_65 : decode cX2_without 65 = .ok (.lsub, 1) := by decide +kernel
theorem dX2_without_66 : decode cX2_without 66 = .ok (.lreturn, 1) := by decide +kernel
set_option maxRecDepth 20000 in
theorem ggX2_fair_X2_eligibleBits : GoodIn wsX2_fair wsX2_eligibleBits := goodIn_r _ [11, 3, 12, 13, 14, 10, 15, 2, 16, 17, 18, 19, 20, 21, 22, 23, 101, 102, 103, 104, 105, 106, 107, 108, 109, 122, 123, 124, 125, 126, 127, 128, 129, 130, 131] (by decide +kernel) (by decide +kernel)
set_option maxRecDepth 20000 in
theorem gX2_fair_X2_eligibleBits : GoodIn wsX2_fair (wsV RX2 122 RX2 yX2_eligibleBits wsX2_eligibleBits) := goodIn_app (goodIn_of _ (by decide +kernel)) ggX2_fair_X2_eligibleBits
set_option maxRecDepth 20000 in
theorem ggX2_fair_X1_layPrices : GoodIn wsX2_fair wsX1_layPrices := goodIn_r _ [28, 29, 30, 31, 32, 33, 27, 34, 35, 36, 37, 38, 39, 40, 41, 42, 43, 44, 45, 46, 47, 48, 49, 50, 51, 52, 53, 54, 55, 22, 10, 23, 56, 57, 58, 59, 60, 61, 62, 110, 111, 112, 113, 114, 115, 116, 117, 118, 119, 120, 121, 122, 123, 124, 125, 126, 127, 128, 129, 130, 131] (by decide +kernel) (by decide +kernel)
set_option maxRecDepth 20000 in
theorem gX2_fair_X1_layPrices : GoodIn wsX2_fair (wsV RX2 220 RX1 yX1_layPrices wsX1_layPrices) := goodIn_app (goodIn_of _ (by decide +kernel)) ggX2_fair_X1_layPrices
set_option maxRecDepth 20000 in
theorem ggX2_fair_X1_layNow : GoodIn wsX2_fair wsX1_layNow := goodIn_r _ [66, 67, 29, 68, 69, 30, 70, 10, 71, 72, 73, 74, 47, 75, 76, 62, 77, 78, 79, 27, 80, 110, 111, 112, 113, 114, 115, 116, 117, 118, 119, 120, 121, 122, 123, 124, 125, 126, 127, 128, 129, 130, 131] (by decide +kernel) (by decide +kernel)
set_option maxRecDepth 20000 in
theorem gX2_fair_X1_layNow : GoodIn wsX2_fair (wsV RX2 223 RX1 yX1_layNow wsX1_layNow) := goodIn_app (goodIn_of _ (by decide +kernel)) ggX2_fair_X1_layNow
set_option maxRecDepth 20000 in
theorem ggX2_fair_X1_rollBack : GoodIn wsX2_fair wsX1_rollBack := goodIn_r _ [84, 85, 86, 87, 69, 88, 89, 90, 91, 27, 92, 68, 93, 94, 95, 96, 29, 97, 98, 99, 100, 110, 111, 112, 113, 114, 115, 116, 117, 118, 119, 120, 121] (by decide +kernel) (by decide +kernel)
set_option maxRecDepth 20000 in
theorem gX2_fair_X1_rollBack : GoodIn wsX2_fair (wsV RX2 227 RX1 yX1_rollBack wsX1_rollBack) := goodIn_app (goodIn_of _ (by decide +kernel)) ggX2_fair_X1_rollBack
theorem dX2_fair_0 : decode cX2_fair 0 = .ok (.aload_n 0, 1) := by decide +kernel
theorem dX2_fair_1 : decode cX2_fair 1 = .ok (.invokevirtual 122, 3) := by decide +kernel
theorem dX2_fair_4 : decode cX2_fair 4 = .ok (.istore_n 1, 1) := by decide +kernel
theorem dX2_fair_5 : decode cX2_fair 5 = .ok (.iload_n 1, 1) := by decide +kernel
theorem dX2_fair_6 : decode cX2_fair 6 = .ok (.ifCond .ne 5, 3) := by decide +kernel
theorem dX2_fair_9 : decode cX2_fair 9 = .ok (.iconst (-1), 1) := by decide +kernel
theorem dX2_fair_10 : decode cX2_fair 10 = .ok (.ireturn, 1) := by decide +kernel
theorem dX2_fair_11 : decode cX2_fair 11 = .ok (.aload_n 0, 1) := by decide +kernel
theorem dX2_fair_12 : decode cX2_fair 12 = .ok (.getfield 28, 3) := by decide +kernel
theorem dX2_fair_15 : decode cX2_fair 15 = .ok (.aload_n 0, 1) := by decide +kernel
theorem dX2_fair_16 : decode cX2_fair 16 = .ok (.getfield 11, 3) := by decide +kernel
theorem dX2_fair_19 : decode cX2_fair 19 = .ok (.aload_n 0, 1) := by decide +kernel
theorem dX2_fair_20 : decode cX2_fair 20 = .ok (.getfield 44, 3) := by decide +kernel
theorem dX2_fair_23 : decode cX2_fair 23 = .ok (.invokevirtual 220, 3) := by decide +kernel
theorem dX2_fair_26 : decode cX2_fair 26 = .ok (.iconst (-1), 1) := by decide +kernel
theorem dX2_fair_27 : decode cX2_fair 27 = .ok (.istore_n 2, 1) := by decide +kernel
theorem dX2_fair_28 : decode cX2_fair 28 = .ok (.ldc 235, 2) := by decide +kernel
theorem dX2_fair_30 : decode cX2_fair 30 = .ok (.istore_n 3, 1) := by decide +kernel
theorem dX2_fair_31 : decode cX2_fair 31 = .ok (.iload_n 3, 1) := by decide +kernel
theorem dX2_fair_32 : decode cX2_fair 32 = .ok (.ifCond .le 57, 3) := by decide +kernel
theorem dX2_fair_35 : decode cX2_fair 35 = .ok (.iload_n 2, 1) := by decide +kernel
theorem dX2_fair_36 : decode cX2_fair 36 = .ok (.iload_n 3, 1) := by decide +kernel
theorem dX2_fair_37 : decode cX2_fair 37 = .ok (.iadd, 1) := by decide +kernel
theorem dX2_fair_38 : decode cX2_fair 38 = .ok (.ldc 184, 2) := by decide +kernel
theorem dX2_fair_40 : decode cX2_fair 40 = .ok (.if_icmp .gt 42, 3) := by decide +kernel
theorem dX2_fair_43 : decode cX2_fair 43 = .ok (.aload_n 0, 1) := by decide +kernel
theorem dX2_fair_44 : decode cX2_fair 44 = .ok (.getfield 28, 3) := by decide +kernel
theorem dX2_fair_47 : decode cX2_fair 47 = .ok (.aload_n 0, 1) := by decide +kernel
theorem dX2_fair_48 : decode cX2_fair 48 = .ok (.getfield 11, 3) := by decide +kernel
theorem dX2_fair_51 : decode cX2_fair 51 = .ok (.iload_n 1, 1) := by decide +kernel
theorem dX2_fair_52 : decode cX2_fair 52 = .ok (.iload_n 2, 1) := by decide +kernel
theorem dX2_fair_53 : decode cX2_fair 53 = .ok (.iload_n 3, 1) := by decide +kernel
theorem dX2_fair_54 : decode cX2_fair 54 = .ok (.iadd, 1) := by decide +kernel
theorem dX2_fair_55 : decode cX2_fair 55 = .ok (.invokevirtual 223, 3) := by decide +kernel
theorem dX2_fair_58 : decode cX2_fair 58 = .ok (.aload_n 0, 1) := by decide +kernel
theorem dX2_fair_59 : decode cX2_fair 59 = .ok (.getfield 28, 3) := by decide +kernel
theorem dX2_fair_62 : decode cX2_fair 62 = .ok (.aload_n 0, 1) := by decide +kernel
theorem dX2_fair_63 : decode cX2_fair 63 = .ok (.getfield 28, 3) := by decide +kernel
theorem dX2_fair_66 : decode cX2_fair 66 = .ok (.getfield 129, 3) := by decide +kernel
theorem dX2_fair_69 : decode cX2_fair 69 = .ok (.iconst 1, 1) := by decide +kernel
theorem dX2_fair_70 : decode cX2_fair 70 = .ok (.invokevirtual 227, 3) := by decide +kernel
theorem dX2_fair_73 : decode cX2_fair 73 = .ok (.lconst 0, 1) := by decide +kernel
theorem dX2_fair_74 : decode cX2_fair 74 = .ok (.lcmp, 1) := by decide +kernel
theorem dX2_fair_75 : decode cX2_fair 75 = .ok (.ifCond .ge 7, 3) := by decide +kernel
theorem dX2_fair_78 : decode cX2_fair 78 = .ok (.iload_n 2, 1) := by decide +kernel
theorem dX2_fair_79 : decode cX2_fair 79 = .ok (.iload_n 3, 1) := by decide +kernel
theorem dX2_fair_80 : decode cX2_fair 80 = .ok (.iadd, 1) := by decide +kernel
theorem dX2_fair_81 : decode cX2_fair 81 = .ok (.istore_n 2, 1) := by decide +kernel
theorem dX2_fair_82 : decode cX2_fair 82 = .ok (.iload_n 3, 1) := by decide +kernel
theorem dX2_fair_83 : decode cX2_fair 83 = .ok (.iconst 2, 1) := by decide +kernel
theorem dX2_fair_84 : decode cX2_fair 84 = .ok (.idiv, 1) := by decide +kernel
theorem dX2_fair_85 : decode cX2_fair 85 = .ok (.istore_n 3, 1) := by decide +kernel
theorem dX2_fair_86 : decode cX2_fair 86 = .ok (.goto (-55), 3) := by decide +kernel
theorem dX2_fair_89 : decode cX2_fair 89 = .ok (.iload_n 2, 1) := by decide +kernel
theorem dX2_fair_90 : decode cX2_fair 90 = .ok (.ldc 184, 2) := by decide +kernel
theorem dX2_fair_92 : decode cX2_fair 92 = .ok (.if_icmp .ne 7, 3) := by decide +kernel
theorem dX2_fair_95 : decode cX2_fair 95 = .ok (.iconst (-1), 1) := by decide +kernel
theorem dX2_fair_96 : decode cX2_fair 96 = .ok (.goto 6, 3) := by decide +kernel
theorem dX2_fair_99 : decode cX2_fair 99 = .ok (.iload_n 2, 1) := by decide +kernel
theorem dX2_fair_100 : decode cX2_fair 100 = .ok (.iconst 1, 1) := by decide +kernel
theorem dX2_fair_101 : decode cX2_fair 101 = .ok (.iadd, 1) := by decide +kernel
theorem dX2_fair_102 : decode cX2_fair 102 = .ok (.ireturn, 1) := by decide +kernel
theorem dX2_within_0 : decode cX2_within 0 = .ok (.iload_n 0, 1) := by decide +kernel
theorem dX2_within_1 : decode cX2_within 1 = .ok (.iload_n 1, 1) := by decide +kernel
theorem dX2_within_2 : decode cX2_within 2 = .ok (.if_icmp .lt 12, 3) := by decide +kernel
theorem dX2_within_5 : decode cX2_within 5 = .ok (.iload_n 0, 1) := by decide +kernel
theorem dX2_within_6 : decode cX2_within 6 = .ok (.iload_n 2, 1) := by decide +kernel
theorem dX2_within_7 : decode cX2_within 7 = .ok (.if_icmp .gt 7, 3) := by decide +kernel
theorem dX2_within_10 : decode cX2_within 10 = .ok (.iconst 1, 1) := by decide +kernel
theorem dX2_within_11 : decode cX2_within 11 = .ok (.goto 4, 3) := by decide +kernel
theorem dX2_within_14 : decode cX2_within 14 = .ok (.iconst 0, 1) := by decide +kernel
theorem dX2_within_15 : decode cX2_within 15 = .ok (.ireturn, 1) := by decide +kernel
set_option maxRecDepth 20000 in
theorem ggX2_isRate_X2_within : GoodIn wsX2_isRate wsX2_within := goodIn_r _ [4] (by decide +kernel) (by decide +kernel)
set_option maxRecDepth 20000 in
theorem gX2_isRate_X2_within : GoodIn wsX2_isRate (va_wsS RX2 47 yX2_within wsX2_within) := goodIn_app (goodIn_of _ (by decide +kernel)) ggX2_isRate_X2_within
theorem dX2_isRate_0 : decode cX2_isRate 0 = .ok (.iload_n 0, 1) := by decide +kernel
theorem dX2_isRate_1 : decode cX2_isRate 1 = .ok (.iconst 0, 1) := by decide +kernel
theorem dX2_isRate_2 : decode cX2_isRate 2 = .ok (.sipush 3000, 3) := by decide +kernel
theorem dX2_isRate_5 : decode cX2_isRate 5 = .ok (.invokestatic 47, 3) := by decide +kernel
theorem dX2_isRate_8 : decode cX2_isRate 8 = .ok (.ireturn, 1) := by decide +kernel
theorem dX2_isIn_0 : decode cX2_isIn 0 = .ok (.iload_n 0, 1) := by decide +kernel
theorem dX2_isIn_1 : decode cX2_isIn 1 = .ok (.iload_n 1, 1) := by decide +kernel
theorem dX2_isIn_2 : decode cX2_isIn 2 = .ok (.ishr, 1) := by decide +kernel
theorem dX2_isIn_3 : decode cX2_isIn 3 = .ok (.iconst 1, 1) := by decide +kernel
theorem dX2_isIn_4 : decode cX2_isIn 4 = .ok (.iand, 1) := by decide +kernel
theorem dX2_isIn_5 : decode cX2_isIn 5 = .ok (.iconst 1, 1) := by decide +kernel
theorem dX2_isIn_6 : decode cX2_isIn 6 = .ok (.if_icmp .ne 7, 3) := by decide +kernel
theorem dX2_isIn_9 : decode cX2_isIn 9 = .ok (.iconst 1, 1) := by decide +kernel
theorem dX2_isIn_10 : decode cX2_isIn 10 = .ok (.goto 4, 3) := by decide +kernel
theorem dX2_isIn_13 : decode cX2_isIn 13 = .ok (.iconst 0, 1) := by decide +kernel
theorem dX2_isIn_14 : decode cX2_isIn 14 = .ok (.ireturn, 1) := by decide +kernel
set_option maxRecDepth 20000 in
theorem ggX2_canBe_X2_within : GoodIn wsX2_canBe wsX2_within := goodIn_r _ [4] (by decide +kernel) (by decide +kernel)
set_option maxRecDepth 20000 in
theorem gX2_canBe_X2_within : GoodIn wsX2_canBe (va_wsS RX2 47 yX2_within wsX2_within) := goodIn_app (goodIn_of _ (by decide +kernel)) ggX2_canBe_X2_within
theorem dX2_canBe_0 : decode cX2_canBe 0 = .ok (.iload_n 1, 1) := by decide +kernel
theorem dX2_canBe_1 : decode cX2_canBe 1 = .ok (.iconst 0, 1) := by decide +kernel
theorem dX2_canBe_2 : decode cX2_canBe 2 = .ok (.sipush 2000, 3) := by decide +kernel
theorem dX2_canBe_5 : decode cX2_canBe 5 = .ok (.invokestatic 47, 3) := by decide +kernel
theorem dX2_canBe_8 : decode cX2_canBe 8 = .ok (.ifCond .eq 13, 3) := by decide +kernel
theorem dX2_canBe_11 : decode cX2_canBe 11 = .ok (.iload_n 2, 1) := by decide +kernel
theorem dX2_canBe_12 : decode cX2_canBe 12 = .ok (.iconst 1, 1) := by decide +kernel
theorem dX2_canBe_13 : decode cX2_canBe 13 = .ok (.bipush 40, 2) := by decide +kernel
theorem dX2_canBe_15 : decode cX2_canBe 15 = .ok (.invokestatic 47, 3) := by decide +kernel
theorem dX2_canBe_18 : decode cX2_canBe 18 = .ok (.ifCond .ne 5, 3) := by decide +kernel
theorem dX2_canBe_21 : decode cX2_canBe 21 = .ok (.iconst 0, 1) := by decide +kernel
theorem dX2_canBe_22 : decode cX2_canBe 22 = .ok (.ireturn, 1) := by decide +kernel
theorem dX2_canBe_23 : decode cX2_canBe 23 = .ok (.iload_n 0, 1) := by decide +kernel
theorem dX2_canBe_24 : decode cX2_canBe 24 = .ok (.tableswitch 71 0 3 #[32, 42, 50, 57], 32) := by decide +kernel
theorem dX2_canBe_56 : decode cX2_canBe 56 = .ok (.iload_n 3, 1) := by decide +kernel
theorem dX2_canBe_57 : decode cX2_canBe 57 = .ok (.ifCond .ne 7, 3) := by decide +kernel
theorem dX2_canBe_60 : decode cX2_canBe 60 = .ok (.iconst 1, 1) := by decide +kernel
theorem dX2_canBe_61 : decode cX2_canBe 61 = .ok (.goto 4, 3) := by decide +kernel
theorem dX2_canBe_64 : decode cX2_canBe 64 = .ok (.iconst 0, 1) := by decide +kernel
theorem dX2_canBe_65 : decode cX2_canBe 65 = .ok (.ireturn, 1) := by decide +kernel
theorem dX2_canBe_66 : decode cX2_canBe 66 = .ok (.iload_n 3, 1) := by decide +kernel
theorem dX2_canBe_67 : decode cX2_canBe 67 = .ok (.iconst 1, 1) := by decide +kernel
theorem dX2_canBe_68 : decode cX2_canBe 68 = .ok (.bipush 100, 2) := by decide +kernel
theorem dX2_canBe_70 : decode cX2_canBe 70 = .ok (.invokestatic 47, 3) := by decide +kernel
theorem dX2_canBe_73 : decode cX2_canBe 73 = .ok (.ireturn, 1) := by decide +kernel
theorem dX2_canBe_74 : decode cX2_canBe 74 = .ok (.iload_n 3, 1) := by decide +kernel
theorem dX2_canBe_75 : decode cX2_canBe 75 = .ok (.iconst 1, 1) := by decide +kernel
theorem dX2_canBe_76 : decode cX2_canBe 76 = .ok (.iload_n 2, 1) := by decide +kernel
theorem dX2_canBe_77 : decode cX2_canBe 77 = .ok (.invokestatic 47, 3) := by decide +kernel
theorem dX2_canBe_80 : decode cX2_canBe 80 = .ok (.ireturn, 1) := by decide +kernel
theorem dX2_canBe_81 : decode cX2_canBe 81 = .ok (.iload_n 3, 1) := by decide +kernel
theorem dX2_canBe_82 : decode cX2_canBe 82 = .ok (.ifCond .ne 11, 3) := by decide +kernel
theorem dX2_canBe_85 : decode cX2_canBe 85 = .ok (.iload_n 1, 1) := by decide +kernel
theorem dX2_canBe_86 : decode cX2_canBe 86 = .ok (.ifCond .ne 7, 3) := by decide +kernel
theorem dX2_canBe_89 : decode cX2_canBe 89 = .ok (.iconst 1, 1) := by decide +kernel
theorem dX2_canBe_90 : decode cX2_canBe 90 = .ok (.goto 4, 3) := by decide +kernel
theorem dX2_canBe_93 : decode cX2_canBe 93 = .ok (.iconst 0, 1) := by decide +kernel
theorem dX2_canBe_94 : decode cX2_canBe 94 = .ok (.ireturn, 1) := by decide +kernel
theorem dX2_canBe_95 : decode cX2_canBe 95 = .ok (.iconst 0, 1) := by decide +kernel
theorem dX2_canBe_96 : decode cX2_canBe 96 = .ok (.ireturn, 1) := by decide +kernel
set_option maxRecDepth 20000 in
theorem ggX2_has_X2_within : GoodIn wsX2_has wsX2_within := goodIn_r _ [5] (by decide +kernel) (by decide +kernel)
set_option maxRecDepth 20000 in
theorem gX2_has_X2_within : GoodIn wsX2_has (va_wsS RX2 47 yX2_within wsX2_within) := goodIn_app (goodIn_of _ (by decide +kernel)) ggX2_has_X2_within
theorem dX2_has_0 : decode cX2_has 0 = .ok (.iload_n 1, 1) := by decide +kernel
theorem dX2_has_1 : decode cX2_has 1 = .ok (.iconst 0, 1) := by decide +kernel
theorem dX2_has_2 : decode cX2_has 2 = .ok (.aload_n 0, 1) := by decide +kernel
theorem dX2_has_3 : decode cX2_has 3 = .ok (.getfield 44, 3) := by decide +kernel
theorem dX2_has_6 : decode cX2_has 6 = .ok (.iconst 1, 1) := by decide +kernel
theorem dX2_has_7 : decode cX2_has 7 = .ok (.isub, 1) := by decide +kernel
theorem dX2_has_8 : decode cX2_has 8 = .ok (.invokestatic 47, 3) := by decide +kernel
theorem dX2_has_11 : decode cX2_has 11 = .ok (.ireturn, 1) := by decide +kernel
set_option maxRecDepth 20000 in
theorem ggX2_isEligible_X2_within : GoodIn wsX2_isEligible wsX2_within := goodIn_r _ [10] (by decide +kernel) (by decide +kernel)
set_option maxRecDepth 20000 in
theorem gX2_isEligible_X2_within : GoodIn wsX2_isEligible (va_wsS RX2 47 yX2_within wsX2_within) := goodIn_app (goodIn_of _ (by decide +kernel)) ggX2_isEligible_X2_within
theorem dX2_isEligible_0 : decode cX2_isEligible 0 = .ok (.aload_n 0, 1) := by decide +kernel
theorem dX2_isEligible_1 : decode cX2_isEligible 1 = .ok (.getfield 11, 3) := by decide +kernel
theorem dX2_isEligible_4 : decode cX2_isEligible 4 = .ok (.iload_n 1, 1) := by decide +kernel
theorem dX2_isEligible_5 : decode cX2_isEligible 5 = .ok (.aaload, 1) := by decide +kernel
theorem dX2_isEligible_6 : decode cX2_isEligible 6 = .ok (.astore_n 2, 1) := by decide +kernel
theorem dX2_isEligible_7 : decode cX2_isEligible 7 = .ok (.aload_n 2, 1) := by decide +kernel
theorem dX2_isEligible_8 : decode cX2_isEligible 8 = .ok (.getfield 101, 3) := by decide +kernel
theorem dX2_isEligible_11 : decode cX2_isEligible 11 = .ok (.ifCond .ne 32, 3) := by decide +kernel
theorem dX2_isEligible_14 : decode cX2_isEligible 14 = .ok (.aload_n 2, 1) := by decide +kernel
theorem dX2_isEligible_15 : decode cX2_isEligible 15 = .ok (.getfield 89, 3) := by decide +kernel
theorem dX2_isEligible_18 : decode cX2_isEligible 18 = .ok (.aload_n 0, 1) := by decide +kernel
theorem dX2_isEligible_19 : decode cX2_isEligible 19 = .ok (.getfield 19, 3) := by decide +kernel
theorem dX2_isEligible_22 : decode cX2_isEligible 22 = .ok (.aload_n 0, 1) := by decide +kernel
theorem dX2_isEligible_23 : decode cX2_isEligible 23 = .ok (.getfield 22, 3) := by decide +kernel
theorem dX2_isEligible_26 : decode cX2_isEligible 26 = .ok (.invokestatic 47, 3) := by decide +kernel
theorem dX2_isEligible_29 : decode cX2_isEligible 29 = .ok (.ifCond .eq 14, 3) := by decide +kernel
theorem dX2_isEligible_32 : decode cX2_isEligible 32 = .ok (.aload_n 2, 1) := by decide +kernel
theorem dX2_isEligible_33 : decode cX2_isEligible 33 = .ok (.getfield 104, 3) := by decide +kernel
theorem dX2_isEligible_36 : decode cX2_isEligible 36 = .ok (.ifCond .le 7, 3) := by decide +kernel
theorem dX2_isEligible_39 : decode cX2_isEligible 39 = .ok (.iconst 1, 1) := by decide +kernel
theorem dX2_isEligible_40 : decode cX2_isEligible 40 = .ok (.goto 4, 3) := by decide +kernel
theorem dX2_isEligible_43 : decode cX2_isEligible 43 = .ok (.iconst 0, 1) := by decide +kernel
theorem dX2_isEligible_44 : decode cX2_isEligible 44 = .ok (.ireturn, 1) := by decide +kernel
set_option maxRecDepth 20000 in
theorem ggX2_eligibleBits_X2_isEligible : GoodIn wsX2_eligibleBits wsX2_isEligible := goodIn_r _ [6, 7, 8, 9, 10, 11, 12, 13, 14, 5, 15, 16, 17, 18, 19, 20, 21, 22, 23, 24, 25, 26, 27, 28, 29, 30, 31, 32, 33, 34] (by decide +kernel) (by decide +kernel)
set_option maxRecDepth 20000 in
theorem gX2_eligibleBits_X2_isEligible : GoodIn wsX2_eligibleBits (wsV RX2 107 RX2 yX2_isEligible wsX2_isEligible) := goodIn_app (goodIn_of _ (by decide +kernel)) ggX2_eligibleBits_X2_isEligible
theorem dX2_eligibleBits_0 : decode cX2_eligibleBits 0 = .ok (.iconst 0, 1) := by decide +kernel
theorem dX2_eligibleBits_1 : decode cX2_eligibleBits 1 = .ok (.istore_n 1, 1) := by decide +kernel
theorem dX2_eligibleBits_2 : decode cX2_eligibleBits 2 = .ok (.iconst 0, 1) := by decide +kernel
theorem dX2_eligibleBits_3 : decode cX2_eligibleBits 3 = .ok (.istore_n 2, 1) := by decide +kernel
theorem dX2_eligibleBits_4 : decode cX2_eligibleBits 4 = .ok (.iload_n 2, 1) := by decide +kernel
theorem dX2_eligibleBits_5 : decode cX2_eligibleBits 5 = .ok (.aload_n 0, 1) := by decide +kernel
theorem dX2_eligibleBits_6 : decode cX2_eligibleBits 6 = .ok (.getfield 44, 3) := by decide +kernel
theorem dX2_eligibleBits_9 : decode cX2_eligibleBits 9 = .ok (.if_icmp .ge 23, 3) := by decide +kernel
theorem dX2_eligibleBits_12 : decode cX2_eligibleBits 12 = .ok (.aload_n 0, 1) := by decide +kernel
theorem dX2_eligibleBits_13 : decode cX2_eligibleBits 13 = .ok (.iload_n 2, 1) := by decide +kernel
theorem dX2_eligibleBits_14 : decode cX2_eligibleBits 14 = .ok (.invokevirtual 107, 3) := by decide +kernel
theorem dX2_eligibleBits_17 : decode cX2_eligibleBits 17 = .ok (.ifCond .eq 9, 3) := by decide +kernel
theorem dX2_eligibleBits_20 : decode cX2_eligibleBits 20 = .ok (.iload_n 1, 1) := by decide +kernel
theorem dX2_eligibleBits_21 : decode cX2_eligibleBits 21 = .ok (.iconst 1, 1) := by decide +kernel
theorem dX2_eligibleBits_22 : decode cX2_eligibleBits 22 = .ok (.iload_n 2, 1) := by decide +kernel
theorem dX2_eligibleBits_23 : decode cX2_eligibleBits 23 = .ok (.ishl, 1) := by decide +kernel
theorem dX2_eligibleBits_24 : decode cX2_eligibleBits 24 = .ok (.ior, 1) := by decide +kernel
theorem dX2_eligibleBits_25 : decode cX2_eligibleBits 25 = .ok (.istore_n 1, 1) := by decide +kernel
theorem dX2_eligibleBits_26 : decode cX2_eligibleBits 26 = .ok (.iinc 2 1, 3) := by decide +kernel
theorem dX2_eligibleBits_29 : decode cX2_eligibleBits 29 = .ok (.goto (-25), 3) := by decide +kernel
theorem dX2_eligibleBits_32 : decode cX2_eligibleBits 32 = .ok (.iload_n 1, 1) := by decide +kernel
theorem dX2_eligibleBits_33 : decode cX2_eligibleBits 33 = .ok (.ireturn, 1) := by decide +kernel
set_option maxRecDepth 20000 in
theorem ggX2_eligibleStock_X2_isEligible : GoodIn wsX2_eligibleStock wsX2_isEligible := goodIn_r _ [8, 2, 9, 10, 11, 12, 13, 14, 15, 7, 16, 17, 18, 19, 20, 21, 22, 23, 24, 25, 26, 27, 28, 29, 30, 31, 32, 33, 34, 35] (by decide +kernel) (by decide +kernel)
set_option maxRecDepth 20000 in
theorem gX2_eligibleStock_X2_isEligible : GoodIn wsX2_eligibleStock (wsV RX2 107 RX2 yX2_isEligible wsX2_isEligible) := goodIn_app (goodIn_of _ (by decide +kernel)) ggX2_eligibleStock_X2_isEligible
theorem dX2_eligibleStock_0 : decode cX2_eligibleStock 0 = .ok (.iconst 0, 1) := by decide +kernel
theorem dX2_eligibleStock_1 : decode cX2_eligibleStock 1 = .ok (.istore_n 1, 1) := by decide +kernel
theorem dX2_eligibleStock_2 : decode cX2_eligibleStock 2 = .ok (.iconst 0, 1) := by decide +kernel
theorem dX2_eligibleStock_3 : decode cX2_eligibleStock 3 = .ok (.istore_n 2, 1) := by decide +kernel
theorem dX2_eligibleStock_4 : decode cX2_eligibleStock 4 = .ok (.iload_n 2, 1) := by decide +kernel
theorem dX2_eligibleStock_5 : decode cX2_eligibleStock 5 = .ok (.aload_n 0, 1) := by decide +kernel
theorem dX2_eligibleStock_6 : decode cX2_eligibleStock 6 = .ok (.getfield 44, 3) := by decide +kernel
theorem dX2_eligibleStock_9 : decode cX2_eligibleStock 9 = .ok (.if_icmp .ge 29, 3) := by decide +kernel
theorem dX2_eligibleStock_12 : decode cX2_eligibleStock 12 = .ok (.aload_n 0, 1) := by decide +kernel
theorem dX2_eligibleStock_13 : decode cX2_eligibleStock 13 = .ok (.iload_n 2, 1) := by decide +kernel
theorem dX2_eligibleStock_14 : decode cX2_eligibleStock 14 = .ok (.invokevirtual 107, 3) := by decide +kernel
theorem dX2_eligibleStock_17 : decode cX2_eligibleStock 17 = .ok (.ifCond .eq 15, 3) := by decide +kernel
theorem dX2_eligibleStock_20 : decode cX2_eligibleStock 20 = .ok (.iload_n 1, 1) := by decide +kernel
theorem dX2_eligibleStock_21 : decode cX2_eligibleStock 21 = .ok (.aload_n 0, 1) := by decide +kernel
theorem dX2_eligibleStock_22 : decode cX2_eligibleStock 22 = .ok (.getfield 11, 3) := by decide +kernel
theorem dX2_eligibleStock_25 : decode cX2_eligibleStock 25 = .ok (.iload_n 2, 1) := by decide +kernel
theorem dX2_eligibleStock_26 : decode cX2_eligibleStock 26 = .ok (.aaload, 1) := by decide +kernel
theorem dX2_eligibleStock_27 : decode cX2_eligibleStock 27 = .ok (.getfield 98, 3) := by decide +kernel
theorem dX2_eligibleStock_30 : decode cX2_eligibleStock 30 = .ok (.iadd, 1) := by decide +kernel
theorem dX2_eligibleStock_31 : decode cX2_eligibleStock 31 = .ok (.istore_n 1, 1) := by decide +kernel
theorem dX2_eligibleStock_32 : decode cX2_eligibleStock 32 = .ok (.iinc 2 1, 3) := by decide +kernel
theorem dX2_eligibleStock_35 : decode cX2_eligibleStock 35 = .ok (.goto (-31), 3) := by decide +kernel
theorem dX2_eligibleStock_38 : decode cX2_eligibleStock 38 = .ok (.iload_n 1, 1) := by decide +kernel
theorem dX2_eligibleStock_39 : decode cX2_eligibleStock 39 = .ok (.ireturn, 1) := by decide +kernel
set_option maxRecDepth 20000 in
theorem ggX2_keepWorths_X2_isIn : GoodIn wsX2_keepWorths wsX2_isIn := goodIn_r _ [6] (by decide +kernel) (by decide +kernel)
set_option maxRecDepth 20000 in
theorem gX2_keepWorths_X2_isIn : GoodIn wsX2_keepWorths (va_wsS RX2 152 yX2_isIn wsX2_isIn) := goodIn_app (goodIn_of _ (by decide +kernel)) ggX2_keepWorths_X2_isIn
set_option maxRecDepth 20000 in
theorem ggX2_keepWorths_X0_keepWorths : GoodIn wsX2_keepWorths wsX0_keepWorths := goodIn_r _ [11, 12, 13, 23, 24, 25, 26, 27, 28, 29, 30, 31, 32] (by decide +kernel) (by decide +kernel)
set_option maxRecDepth 20000 in
theorem gX2_keepWorths_X0_keepWorths : GoodIn wsX2_keepWorths (wsV RX2 236 RX0 yX0_keepWorths wsX0_keepWorths) := goodIn_app (goodIn_of _ (by decide +kernel)) ggX2_keepWorths_X0_keepWorths
theorem dX2_keepWorths_0 : decode cX2_keepWorths 0 = .ok (.iconst 0, 1) := by decide +kernel
theorem dX2_keepWorths_1 : decode cX2_keepWorths 1 = .ok (.istore_n 2, 1) := by decide +kernel
theorem dX2_keepWorths_2 : decode cX2_keepWorths 2 = .ok (.iload_n 2, 1) := by decide +kernel
theorem dX2_keepWorths_3 : decode cX2_keepWorths 3 = .ok (.aload_n 0, 1) := by decide +kernel
theorem dX2_keepWorths_4 : decode cX2_keepWorths 4 = .ok (.getfield 44, 3) := by decide +kernel
theorem dX2_keepWorths_7 : decode cX2_keepWorths 7 = .ok (.if_icmp .ge 26, 3) := by decide +kernel
theorem dX2_keepWorths_10 : decode cX2_keepWorths 10 = .ok (.iload_n 1, 1) := by decide +kernel
theorem dX2_keepWorths_11 : decode cX2_keepWorths 11 = .ok (.iload_n 2, 1) := by decide +kernel
theorem dX2_keepWorths_12 : decode cX2_keepWorths 12 = .ok (.invokestatic 152, 3) := by decide +kernel
theorem dX2_keepWorths_15 : decode cX2_keepWorths 15 = .ok (.ifCond .eq 12, 3) := by decide +kernel
theorem dX2_keepWorths_18 : decode cX2_keepWorths 18 = .ok (.aload_n 0, 1) := by decide +kernel
theorem dX2_keepWorths_19 : decode cX2_keepWorths 19 = .ok (.getfield 11, 3) := by decide +kernel
theorem dX2_keepWorths_22 : decode cX2_keepWorths 22 = .ok (.iload_n 2, 1) := by decide +kernel
theorem dX2_keepWorths_23 : decode cX2_keepWorths 23 = .ok (.aaload, 1) := by decide +kernel
theorem dX2_keepWorths_24 : decode cX2_keepWorths 24 = .ok (.invokevirtual 236, 3) := by decide +kernel
theorem dX2_keepWorths_27 : decode cX2_keepWorths 27 = .ok (.iinc 2 1, 3) := by decide +kernel
theorem dX2_keepWorths_30 : decode cX2_keepWorths 30 = .ok (.goto (-28), 3) := by decide +kernel
theorem dX2_keepWorths_33 : decode cX2_keepWorths 33 = .ok (.return_, 1) := by decide +kernel
set_option maxRecDepth 20000 in
theorem ggX2_layPrices_X2_isIn : GoodIn wsX2_layPrices wsX2_isIn := goodIn_r _ [7] (by decide +kernel) (by decide +kernel)
set_option maxRecDepth 20000 in
theorem gX2_layPrices_X2_isIn : GoodIn wsX2_layPrices (va_wsS RX2 152 yX2_isIn wsX2_isIn) := goodIn_app (goodIn_of _ (by decide +kernel)) ggX2_layPrices_X2_isIn
set_option maxRecDepth 20000 in
theorem ggX2_layPrices_X0_priceAt : GoodIn wsX2_layPrices wsX0_priceAt := goodIn_r _ [12, 13, 14, 15, 16, 17, 18, 19, 20, 11, 21, 22, 23, 6, 24, 25, 26, 27, 28, 29, 30, 31, 41, 42, 43, 44, 45, 46, 47, 48, 49, 50] (by decide +kernel) (by decide +kernel)
set_option maxRecDepth 20000 in
theorem gX2_layPrices_X0_priceAt : GoodIn wsX2_layPrices (wsV RX2 118 RX0 yX0_priceAt wsX0_priceAt) := goodIn_app (goodIn_of _ (by decide +kernel)) ggX2_layPrices_X0_priceAt
theorem dX2_layPrices_0 : decode cX2_layPrices 0 = .ok (.iconst 0, 1) := by decide +kernel
theorem dX2_layPrices_1 : decode cX2_layPrices 1 = .ok (.istore_n 3, 1) := by decide +kernel
theorem dX2_layPrices_2 : decode cX2_layPrices 2 = .ok (.iload_n 3, 1) := by decide +kernel
theorem dX2_layPrices_3 : decode cX2_layPrices 3 = .ok (.aload_n 0, 1) := by decide +kernel
theorem dX2_layPrices_4 : decode cX2_layPrices 4 = .ok (.getfield 44, 3) := by decide +kernel
theorem dX2_layPrices_7 : decode cX2_layPrices 7 = .ok (.if_icmp .ge 33, 3) := by decide +kernel
theorem dX2_layPrices_10 : decode cX2_layPrices 10 = .ok (.iload_n 2, 1) := by decide +kernel
theorem dX2_layPrices_11 : decode cX2_layPrices 11 = .ok (.iload_n 3, 1) := by decide +kernel
theorem dX2_layPrices_12 : decode cX2_layPrices 12 = .ok (.invokestatic 152, 3) := by decide +kernel
theorem dX2_layPrices_15 : decode cX2_layPrices 15 = .ok (.ifCond .eq 19, 3) := by decide +kernel
theorem dX2_layPrices_18 : decode cX2_layPrices 18 = .ok (.aload_n 0, 1) := by decide +kernel
theorem dX2_layPrices_19 : decode cX2_layPrices 19 = .ok (.getfield 32, 3) := by decide +kernel
theorem dX2_layPrices_22 : decode cX2_layPrices 22 = .ok (.iload_n 3, 1) := by decide +kernel
theorem dX2_layPrices_23 : decode cX2_layPrices 23 = .ok (.aload_n 0, 1) := by decide +kernel
theorem dX2_layPrices_24 : decode cX2_layPrices 24 = .ok (.getfield 11, 3) := by decide +kernel
theorem dX2_layPrices_27 : decode cX2_layPrices 27 = .ok (.iload_n 3, 1) := by decide +kernel
theorem dX2_layPrices_28 : decode cX2_layPrices 28 = .ok (.aaload, 1) := by decide +kernel
theorem dX2_layPrices_29 : decode cX2_layPrices 29 = .ok (.iload_n 1, 1) := by decide +kernel
theorem dX2_layPrices_30 : decode cX2_layPrices 30 = .ok (.invokevirtual 118, 3) := by decide +kernel
theorem dX2_layPrices_33 : decode cX2_layPrices 33 = .ok (.iastore, 1) := by decide +kernel
theorem dX2_layPrices_34 : decode cX2_layPrices 34 = .ok (.iinc 3 1, 3) := by decide +kernel
theorem dX2_layPrices_37 : decode cX2_layPrices 37 = .ok (.goto (-35), 3) := by decide +kernel
theorem dX2_layPrices_40 : decode cX2_layPrices 40 = .ok (.return_, 1) := by decide +kernel
theorem dX2_comesAhead_0 : decode cX2_comesAhead 0 = .ok (.aload_n 0, 1) := by decide +kernel
theorem dX2_comesAhead_1 : decode cX2_comesAhead 1 = .ok (.getfield 32, 3) := by decide +kernel
theorem dX2_comesAhead_4 : decode cX2_comesAhead 4 = .ok (.iload_n 1, 1) := by decide +kernel
theorem dX2_comesAhead_5 : decode cX2_comesAhead 5 = .ok (.iaload, 1) := by decide +kernel
theorem dX2_comesAhead_6 : decode cX2_comesAhead 6 = .ok (.i2l, 1) := by decide +kernel
theorem dX2_comesAhead_7 : decode cX2_comesAhead 7 = .ok (.aload_n 0, 1) := by decide +kernel
theorem dX2_comesAhead_8 : decode cX2_comesAhead 8 = .ok (.getfield 11, 3) := by decide +kernel
theorem dX2_comesAhead_11 : decode cX2_comesAhead 11 = .ok (.iload_n 2, 1) := by decide +kernel
theorem dX2_comesAhead_12 : decode cX2_comesAhead 12 = .ok (.aaload, 1) := by decide +kernel
theorem dX2_comesAhead_13 : decode cX2_comesAhead 13 = .ok (.getfield 104, 3) := by decide +kernel
theorem dX2_comesAhead_16 : decode cX2_comesAhead 16 = .ok (.i2l, 1) := by decide +kernel
theorem dX2_comesAhead_17 : decode cX2_comesAhead 17 = .ok (.lmul, 1) := by decide +kernel
theorem dX2_comesAhead_18 : decode cX2_comesAhead 18 = .ok (.lstore_n 3, 1) := by decide +kernel
theorem dX2_comesAhead_19 : decode cX2_comesAhead 19 = .ok (.aload_n 0, 1) := by decide +kernel
theorem dX2_comesAhead_20 : decode cX2_comesAhead 20 = .ok (.getfield 32, 3) := by decide +kernel
theorem dX2_comesAhead_23 : decode cX2_comesAhead 23 = .ok (.iload_n 2, 1) := by decide +kernel
theorem dX2_comesAhead_24 : decode cX2_comesAhead 24 = .ok (.iaload, 1) := by decide +kernel
theorem dX2_comesAhead_25 : decode cX2_comesAhead 25 = .ok (.i2l, 1) := by decide +kernel
theorem dX2_comesAhead_26 : decode cX2_comesAhead 26 = .ok (.aload_n 0, 1) := by decide +kernel
theorem dX2_comesAhead_27 : decode cX2_comesAhead 27 = .ok (.getfield 11, 3) := by decide +kernel
theorem dX2_comesAhead_30 : decode cX2_comesAhead 30 = .ok (.iload_n 1, 1) := by decide +kernel
theorem dX2_comesAhead_31 : decode cX2_comesAhead 31 = .ok (.aaload, 1) := by decide +kernel
theorem dX2_comesAhead_32 : decode cX2_comesAhead 32 = .ok (.getfield 104, 3) := by decide +kernel
theorem dX2_comesAhead_35 : decode cX2_comesAhead 35 = .ok (.i2l, 1) := by decide +kernel
theorem dX2_comesAhead_36 : decode cX2_comesAhead 36 = .ok (.lmul, 1) := by decide +kernel
theorem dX2_comesAhead_37 : decode cX2_comesAhead 37 = .ok (.lstore 5, 2) := by decide +kernel
theorem dX2_comesAhead_39 : decode cX2_comesAhead 39 = .ok (.lload_n 3, 1) := by decide +kernel
theorem dX2_comesAhead_40 : decode cX2_comesAhead 40 = .ok (.lload 5, 2) := by decide +kernel
theorem dX2_comesAhead_42 : decode cX2_comesAhead 42 = .ok (.lcmp, 1) := by decide +kernel
theorem dX2_comesAhead_43 : decode cX2_comesAhead 43 = .ok (.ifCond .lt 15, 3) := by decide +kernel
theorem dX2_comesAhead_46 : decode cX2_comesAhead 46 = .ok (.lload_n 3, 1) := by decide +kernel
theorem dX2_comesAhead_47 : decode cX2_comesAhead 47 = .ok (.lload 5, 2) := by decide +kernel
theorem dX2_comesAhead_49 : decode cX2_comesAhead 49 = .ok (.lcmp, 1) := by decide +kernel
theorem dX2_comesAhead_50 : decode cX2_comesAhead 50 = .ok (.ifCond .ne 12, 3) := by decide +kernel
theorem dX2_comesAhead_53 : decode cX2_comesAhead 53 = .ok (.iload_n 1, 1) := by decide +kernel
theorem dX2_comesAhead_54 : decode cX2_comesAhead 54 = .ok (.iload_n 2, 1) := by decide +kernel
theorem dX2_comesAhead_55 : decode cX2_comesAhead 55 = .ok (.if_icmp .ge 7, 3) := by decide +kernel
theorem dX2_comesAhead_58 : decode cX2_comesAhead 58 = .ok (.iconst 1, 1) := by decide +kernel
theorem dX2_comesAhead_59 : decode cX2_comesAhead 59 = .ok (.goto 4, 3) := by decide +kernel
theorem dX2_comesAhead_62 : decode cX2_comesAhead 62 = .ok (.iconst 0, 1) := by decide +kernel
theorem dX2_comesAhead_63 : decode cX2_comesAhead 63 = .ok (.ireturn, 1) := by decide +kernel
set_option maxRecDepth 20000 in
theorem ggX2_howManyAhead_X2_isIn : GoodIn wsX2_howManyAhead wsX2_isIn := goodIn_r _ [5] (by decide +kernel) (by decide +kernel)
set_option maxRecDepth 20000 in
theorem gX2_howManyAhead_X2_isIn : GoodIn wsX2_howManyAhead (va_wsS RX2 152 yX2_isIn wsX2_isIn) := goodIn_app (goodIn_of _ (by decide +kernel)) ggX2_howManyAhead_X2_isIn
set_option maxRecDepth 20000 in
theorem ggX2_howManyAhead_X2_comesAhead : GoodIn wsX2_howManyAhead wsX2_comesAhead := goodIn_r _ [9, 10, 11, 12, 13, 14, 15, 16, 17, 18, 19, 20, 21, 22, 23, 24, 25, 26, 27, 28, 29, 30, 31] (by decide +kernel) (by decide +kernel)
set_option maxRecDepth 20000 in
theorem gX2_howManyAhead_X2_comesAhead : GoodIn wsX2_howManyAhead (wsV RX2 238 RX2 yX2_comesAhead wsX2_comesAhead) := goodIn_app (goodIn_of _ (by decide +kernel)) ggX2_howManyAhead_X2_comesAhead
theorem dX2_howManyAhead_0 : decode cX2_howManyAhead 0 = .ok (.iconst 0, 1) := by decide +kernel
theorem dX2_howManyAhead_1 : decode cX2_howManyAhead 1 = .ok (.istore_n 3, 1) := by decide +kernel
theorem dX2_howManyAhead_2 : decode cX2_howManyAhead 2 = .ok (.iconst 0, 1) := by decide +kernel
theorem dX2_howManyAhead_3 : decode cX2_howManyAhead 3 = .ok (.istore 4, 2) := by decide +kernel
theorem dX2_howManyAhead_5 : decode cX2_howManyAhead 5 = .ok (.iload 4, 2) := by decide +kernel
theorem dX2_howManyAhead_7 : decode cX2_howManyAhead 7 = .ok (.aload_n 0, 1) := by decide +kernel
theorem dX2_howManyAhead_8 : decode cX2_howManyAhead 8 = .ok (.getfield 44, 3) := by decide +kernel
theorem dX2_howManyAhead_11 : decode cX2_howManyAhead 11 = .ok (.if_icmp .ge 31, 3) := by decide +kernel
theorem dX2_howManyAhead_14 : decode cX2_howManyAhead 14 = .ok (.iload_n 2, 1) := by decide +kernel
theorem dX2_howManyAhead_15 : decode cX2_howManyAhead 15 = .ok (.iload 4, 2) := by decide +kernel
theorem dX2_howManyAhead_17 : decode cX2_howManyAhead 17 = .ok (.invokestatic 152, 3) := by decide +kernel
theorem dX2_howManyAhead_20 : decode cX2_howManyAhead 20 = .ok (.ifCond .eq 16, 3) := by decide +kernel
theorem dX2_howManyAhead_23 : decode cX2_howManyAhead 23 = .ok (.aload_n 0, 1) := by decide +kernel
theorem dX2_howManyAhead_24 : decode cX2_howManyAhead 24 = .ok (.iload 4, 2) := by decide +kernel
theorem dX2_howManyAhead_26 : decode cX2_howManyAhead 26 = .ok (.iload_n 1, 1) := by decide +kernel
theorem dX2_howManyAhead_27 : decode cX2_howManyAhead 27 = .ok (.invokevirtual 238, 3) := by decide +kernel
theorem dX2_howManyAhead_30 : decode cX2_howManyAhead 30 = .ok (.ifCond .eq 6, 3) := by decide +kernel
theorem dX2_howManyAhead_33 : decode cX2_howManyAhead 33 = .ok (.iinc 3 1, 3) := by decide +kernel
theorem dX2_howManyAhead_36 : decode cX2_howManyAhead 36 = .ok (.iinc 4 1, 3) := by decide +kernel
theorem dX2_howManyAhead_39 : decode cX2_howManyAhead 39 = .ok (.goto (-34), 3) := by decide +kernel
theorem dX2_howManyAhead_42 : decode cX2_howManyAhead 42 = .ok (.iload_n 3, 1) := by decide +kernel
theorem dX2_howManyAhead_43 : decode cX2_howManyAhead 43 = .ok (.ireturn, 1) := by decide +kernel
set_option maxRecDepth 20000 in
theorem ggX2_cheapestAt_X2_layPrices : GoodIn wsX2_cheapestAt wsX2_layPrices := goodIn_r _ [6, 1, 7, 8, 9, 10, 5, 11, 12, 13, 14, 15, 16, 17, 18, 19, 20, 21, 22, 23, 24, 25, 26, 27, 28, 29, 30, 31, 32, 33, 34, 35, 41, 42, 43, 44, 45, 46, 47, 48, 49, 50, 51, 52, 53, 54, 55, 56, 57, 58, 59] (by decide +kernel) (by decide +kernel)
set_option maxRecDepth 20000 in
theorem gX2_cheapestAt_X2_layPrices : GoodIn wsX2_cheapestAt (wsV RX2 148 RX2 yX2_layPrices wsX2_layPrices) := goodIn_app (goodIn_of _ (by decide +kernel)) ggX2_cheapestAt_X2_layPrices
set_option maxRecDepth 20000 in
theorem ggX2_cheapestAt_X2_isIn : GoodIn wsX2_cheapestAt wsX2_isIn := goodIn_r _ [11] (by decide +kernel) (by decide +kernel)
set_option maxRecDepth 20000 in
theorem gX2_cheapestAt_X2_isIn : GoodIn wsX2_cheapestAt (va_wsS RX2 152 yX2_isIn wsX2_isIn) := goodIn_app (goodIn_of _ (by decide +kernel)) ggX2_cheapestAt_X2_isIn
set_option maxRecDepth 20000 in
theorem ggX2_cheapestAt_X2_comesAhead : GoodIn wsX2_cheapestAt wsX2_comesAhead := goodIn_r _ [39, 7, 8, 40, 41, 42, 43, 44, 45, 46, 47, 48, 49, 50, 51, 52, 53, 54, 55, 56, 57, 58, 59] (by decide +kernel) (by decide +kernel)
set_option maxRecDepth 20000 in
theorem gX2_cheapestAt_X2_comesAhead : GoodIn wsX2_cheapestAt (wsV RX2 238 RX2 yX2_comesAhead wsX2_comesAhead) := goodIn_app (goodIn_of _ (by decide +kernel)) ggX2_cheapestAt_X2_comesAhead
theorem dX2_cheapestAt_0 : decode cX2_cheapestAt 0 = .ok (.aload_n 0, 1) := by decide +kernel
theorem dX2_cheapestAt_1 : decode cX2_cheapestAt 1 = .ok (.iload_n 1, 1) := by decide +kernel
theorem dX2_cheapestAt_2 : decode cX2_cheapestAt 2 = .ok (.iload_n 2, 1) := by decide +kernel
theorem dX2_cheapestAt_3 : decode cX2_cheapestAt 3 = .ok (.invokevirtual 148, 3) := by decide +kernel
theorem dX2_cheapestAt_6 : decode cX2_cheapestAt 6 = .ok (.iconst (-1), 1) := by decide +kernel
theorem dX2_cheapestAt_7 : decode cX2_cheapestAt 7 = .ok (.istore_n 3, 1) := by decide +kernel
theorem dX2_cheapestAt_8 : decode cX2_cheapestAt 8 = .ok (.iconst 0, 1) := by decide +kernel
theorem dX2_cheapestAt_9 : decode cX2_cheapestAt 9 = .ok (.istore 4, 2) := by decide +kernel
theorem dX2_cheapestAt_11 : decode cX2_cheapestAt 11 = .ok (.iload 4, 2) := by decide +kernel
theorem dX2_cheapestAt_13 : decode cX2_cheapestAt 13 = .ok (.aload_n 0, 1) := by decide +kernel
theorem dX2_cheapestAt_14 : decode cX2_cheapestAt 14 = .ok (.getfield 44, 3) := by decide +kernel
theorem dX2_cheapestAt_17 : decode cX2_cheapestAt 17 = .ok (.if_icmp .ge 36, 3) := by decide +kernel
theorem dX2_cheapestAt_20 : decode cX2_cheapestAt 20 = .ok (.iload_n 2, 1) := by decide +kernel
theorem dX2_cheapestAt_21 : decode cX2_cheapestAt 21 = .ok (.iload 4, 2) := by decide +kernel
theorem dX2_cheapestAt_23 : decode cX2_cheapestAt 23 = .ok (.invokestatic 152, 3) := by decide +kernel
theorem dX2_cheapestAt_26 : decode cX2_cheapestAt 26 = .ok (.ifCond .eq 21, 3) := by decide +kernel
theorem dX2_cheapestAt_29 : decode cX2_cheapestAt 29 = .ok (.iload_n 3, 1) := by decide +kernel
theorem dX2_cheapestAt_30 : decode cX2_cheapestAt 30 = .ok (.iconst (-1), 1) := by decide +kernel
theorem dX2_cheapestAt_31 : decode cX2_cheapestAt 31 = .ok (.if_icmp .eq 13, 3) := by decide +kernel
theorem dX2_cheapestAt_34 : decode cX2_cheapestAt 34 = .ok (.aload_n 0, 1) := by decide +kernel
theorem dX2_cheapestAt_35 : decode cX2_cheapestAt 35 = .ok (.iload 4, 2) := by decide +kernel
theorem dX2_cheapestAt_37 : decode cX2_cheapestAt 37 = .ok (.iload_n 3, 1) := by decide +kernel
theorem dX2_cheapestAt_38 : decode cX2_cheapestAt 38 = .ok (.invokevirtual 238, 3) := by decide +kernel
theorem dX2_cheapestAt_41 : decode cX2_cheapestAt 41 = .ok (.ifCond .eq 6, 3) := by decide +kernel
theorem dX2_cheapestAt_44 : decode cX2_cheapestAt 44 = .ok (.iload 4, 2) := by decide +kernel
theorem dX2_cheapestAt_46 : decode cX2_cheapestAt 46 = .ok (.istore_n 3, 1) := by decide +kernel
theorem dX2_cheapestAt_47 : decode cX2_cheapestAt 47 = .ok (.iinc 4 1, 3) := by decide +kernel
theorem dX2_cheapestAt_50 : decode cX2_cheapestAt 50 = .ok (.goto (-39), 3) := by decide +kernel
theorem dX2_cheapestAt_53 : decode cX2_cheapestAt 53 = .ok (.iload_n 3, 1) := by decide +kernel
theorem dX2_cheapestAt_54 : decode cX2_cheapestAt 54 = .ok (.ireturn, 1) := by decide +kernel
set_option maxRecDepth 20000 in
theorem ggX2_markAt_X2_cheapestAt : GoodIn wsX2_markAt wsX2_cheapestAt := goodIn_r _ [10, 11, 12, 13, 14, 9, 15, 4, 1, 16, 17, 18, 19, 20, 21, 22, 23, 24, 25, 26, 27, 28, 29, 30, 31, 32, 33, 34, 35, 36, 37, 38, 39, 40, 41, 42, 43, 44, 45, 46, 2, 47, 48, 49, 50, 51, 52, 53, 54, 55, 56, 57, 58, 59, 60, 61, 62, 63, 64, 65] (by decide +kernel) (by decide +kernel)
set_option maxRecDepth 20000 in
theorem gX2_markAt_X2_cheapestAt : GoodIn wsX2_markAt (wsV RX2 144 RX2 yX2_cheapestAt wsX2_cheapestAt) := goodIn_app (goodIn_of _ (by decide +kernel)) ggX2_markAt_X2_cheapestAt
theorem dX2_markAt_0 : decode cX2_markAt 0 = .ok (.aload_n 0, 1) := by decide +kernel
theorem dX2_markAt_1 : decode cX2_markAt 1 = .ok (.iload_n 1, 1) := by decide +kernel
theorem dX2_markAt_2 : decode cX2_markAt 2 = .ok (.iload_n 2, 1) := by decide +kernel
theorem dX2_markAt_3 : decode cX2_markAt 3 = .ok (.invokevirtual 144, 3) := by decide +kernel
theorem dX2_markAt_6 : decode cX2_markAt 6 = .ok (.istore_n 3, 1) := by decide +kernel
theorem dX2_markAt_7 : decode cX2_markAt 7 = .ok (.iload_n 3, 1) := by decide +kernel
theorem dX2_markAt_8 : decode cX2_markAt 8 = .ok (.iconst (-1), 1) := by decide +kernel
theorem dX2_markAt_9 : decode cX2_markAt 9 = .ok (.if_icmp .eq 15, 3) := by decide +kernel
theorem dX2_markAt_12 : decode cX2_markAt 12 = .ok (.aload_n 0, 1) := by decide +kernel
theorem dX2_markAt_13 : decode cX2_markAt 13 = .ok (.getfield 11, 3) := by decide +kernel
theorem dX2_markAt_16 : decode cX2_markAt 16 = .ok (.iload_n 3, 1) := by decide +kernel
theorem dX2_markAt_17 : decode cX2_markAt 17 = .ok (.aaload, 1) := by decide +kernel
theorem dX2_markAt_18 : decode cX2_markAt 18 = .ok (.getfield 104, 3) := by decide +kernel
theorem dX2_markAt_21 : decode cX2_markAt 21 = .ok (.ifCond .gt 7, 3) := by decide +kernel
theorem dX2_markAt_24 : decode cX2_markAt 24 = .ok (.ldc2_w 163, 3) := by decide +kernel
theorem dX2_markAt_27 : decode cX2_markAt 27 = .ok (.lreturn, 1) := by decide +kernel
theorem dX2_markAt_28 : decode cX2_markAt 28 = .ok (.aload_n 0, 1) := by decide +kernel
theorem dX2_markAt_29 : decode cX2_markAt 29 = .ok (.getfield 32, 3) := by decide +kernel
theorem dX2_markAt_32 : decode cX2_markAt 32 = .ok (.iload_n 3, 1) := by decide +kernel
theorem dX2_markAt_33 : decode cX2_markAt 33 = .ok (.iaload, 1) := by decide +kernel
theorem dX2_markAt_34 : decode cX2_markAt 34 = .ok (.i2l, 1) := by decide +kernel
theorem dX2_markAt_35 : decode cX2_markAt 35 = .ok (.ldc2_w 241, 3) := by decide +kernel
theorem dX2_markAt_38 : decode cX2_markAt 38 = .ok (.lmul, 1) := by decide +kernel
theorem dX2_markAt_39 : decode cX2_markAt 39 = .ok (.aload_n 0, 1) := by decide +kernel
theorem dX2_markAt_40 : decode cX2_markAt 40 = .ok (.getfield 11, 3) := by decide +kernel
theorem dX2_markAt_43 : decode cX2_markAt 43 = .ok (.iload_n 3, 1) := by decide +kernel
theorem dX2_markAt_44 : decode cX2_markAt 44 = .ok (.aaload, 1) := by decide +kernel
theorem dX2_markAt_45 : decode cX2_markAt 45 = .ok (.getfield 104, 3) := by decide +kernel
theorem dX2_markAt_48 : decode cX2_markAt 48 = .ok (.i2l, 1) := by decide +kernel
theorem dX2_markAt_49 : decode cX2_markAt 49 = .ok (.ldiv, 1) := by decide +kernel
theorem dX2_markAt_50 : decode cX2_markAt 50 = .ok (.lreturn, 1) := by decide +kernel
set_option maxRecDepth 20000 in
theorem ggX2_canAsk_X2_within : GoodIn wsX2_canAsk wsX2_within := goodIn_r _ [5] (by decide +kernel) (by decide +kernel)
set_option maxRecDepth 20000 in
theorem gX2_canAsk_X2_within : GoodIn wsX2_canAsk (va_wsS RX2 47 yX2_within wsX2_within) := goodIn_app (goodIn_of _ (by decide +kernel)) ggX2_canAsk_X2_within
set_option maxRecDepth 20000 in
theorem ggX2_canAsk_X2_isRate : GoodIn wsX2_canAsk wsX2_isRate := goodIn_r _ [8, 2, 3, 4, 5] (by decide +kernel) (by decide +kernel)
set_option maxRecDepth 20000 in
theorem gX2_canAsk_X2_isRate : GoodIn wsX2_canAsk (va_wsS RX2 115 yX2_isRate wsX2_isRate) := goodIn_app (goodIn_of _ (by decide +kernel)) ggX2_canAsk_X2_isRate
theorem dX2_canAsk_0 : decode cX2_canAsk 0 = .ok (.iload_n 0, 1) := by decide +kernel
theorem dX2_canAsk_1 : decode cX2_canAsk 1 = .ok (.iconst 0, 1) := by decide +kernel
theorem dX2_canAsk_2 : decode cX2_canAsk 2 = .ok (.sipush 200, 3) := by decide +kernel
theorem dX2_canAsk_5 : decode cX2_canAsk 5 = .ok (.invokestatic 47, 3) := by decide +kernel
theorem dX2_canAsk_8 : decode cX2_canAsk 8 = .ok (.ifCond .eq 24, 3) := by decide +kernel
theorem dX2_canAsk_11 : decode cX2_canAsk 11 = .ok (.iload_n 1, 1) := by decide +kernel
theorem dX2_canAsk_12 : decode cX2_canAsk 12 = .ok (.invokestatic 115, 3) := by decide +kernel
theorem dX2_canAsk_15 : decode cX2_canAsk 15 = .ok (.ifCond .eq 17, 3) := by decide +kernel
theorem dX2_canAsk_18 : decode cX2_canAsk 18 = .ok (.iload_n 2, 1) := by decide +kernel
theorem dX2_canAsk_19 : decode cX2_canAsk 19 = .ok (.iconst 0, 1) := by decide +kernel
theorem dX2_canAsk_20 : decode cX2_canAsk 20 = .ok (.ldc 184, 2) := by decide +kernel
theorem dX2_canAsk_22 : decode cX2_canAsk 22 = .ok (.invokestatic 47, 3) := by decide +kernel
theorem dX2_canAsk_25 : decode cX2_canAsk 25 = .ok (.ifCond .eq 7, 3) := by decide +kernel
theorem dX2_canAsk_28 : decode cX2_canAsk 28 = .ok (.iconst 1, 1) := by decide +kernel
theorem dX2_canAsk_29 : decode cX2_canAsk 29 = .ok (.goto 4, 3) := by decide +kernel
theorem dX2_canAsk_32 : decode cX2_canAsk 32 = .ok (.iconst 0, 1) := by decide +kernel
theorem dX2_canAsk_33 : decode cX2_canAsk 33 = .ok (.ireturn, 1) := by decide +kernel
set_option maxRecDepth 20000 in
theorem ggX2_takeCheapest_X2_eligibleBits : GoodIn wsX2_takeCheapest wsX2_eligibleBits := goodIn_r _ [14, 2, 15, 16, 17, 13, 18, 4, 19, 20, 21, 22, 23, 24, 25, 26, 64, 65, 66, 67, 68, 69, 70, 71, 72, 73, 74, 75, 76, 77, 78, 79, 80, 81, 82] (by decide +kernel) (by decide +kernel)
set_option maxRecDepth 20000 in
theorem gX2_takeCheapest_X2_eligibleBits : GoodIn wsX2_takeCheapest (wsV RX2 122 RX2 yX2_eligibleBits wsX2_eligibleBits) := goodIn_app (goodIn_of _ (by decide +kernel)) ggX2_takeCheapest_X2_eligibleBits
set_option maxRecDepth 20000 in
theorem ggX2_takeCheapest_J7_fill_53178 : GoodIn wsX2_takeCheapest wsJ7_fill_53178 := goodIn_r _ [30] (by decide +kernel) (by decide +kernel)
set_option maxRecDepth 20000 in
theorem gX2_takeCheapest_J7_fill_53178 : GoodIn wsX2_takeCheapest (va_wsS RX2 243 yJ7_fill_53178 wsJ7_fill_53178) := goodIn_app (goodIn_of _ (by decide +kernel)) ggX2_takeCheapest_J7_fill_53178
set_option maxRecDepth 20000 in
theorem ggX2_takeCheapest_X0_priceAt : GoodIn wsX2_takeCheapest wsX0_priceAt := goodIn_r _ [35, 36, 37, 38, 8, 39, 40, 41, 42, 34, 43, 44, 25, 13, 26, 45, 46, 47, 48, 49, 50, 51, 73, 74, 75, 76, 77, 78, 79, 80, 81, 82] (by decide +kernel) (by decide +kernel)
set_option maxRecDepth 20000 in
theorem gX2_takeCheapest_X0_priceAt : GoodIn wsX2_takeCheapest (wsV RX2 118 RX0 yX0_priceAt wsX0_priceAt) := goodIn_app (goodIn_of _ (by decide +kernel)) ggX2_takeCheapest_X0_priceAt
set_option maxRecDepth 20000 in
theorem ggX2_takeCheapest_X0_invoiceBy : GoodIn wsX2_takeCheapest wsX0_invoiceBy := goodIn_r _ [55, 56, 51, 73, 74, 75, 76, 77, 78, 79, 80, 81, 82] (by decide +kernel) (by decide +kernel)
set_option maxRecDepth 20000 in
theorem gX2_takeCheapest_X0_invoiceBy : GoodIn wsX2_takeCheapest (wsV RX2 167 RX0 yX0_invoiceBy wsX0_invoiceBy) := goodIn_app (goodIn_of _ (by decide +kernel)) ggX2_takeCheapest_X0_invoiceBy
set_option maxRecDepth 20000 in
theorem ggX2_takeCheapest_X2_leastCost : GoodIn wsX2_takeCheapest wsX2_leastCost := goodIn_r _ [60, 2, 3, 61, 62, 13, 63, 64, 65, 66, 67, 68, 69, 70, 71, 72] (by decide +kernel) (by decide +kernel)
set_option maxRecDepth 20000 in
theorem gX2_takeCheapest_X2_leastCost : GoodIn wsX2_takeCheapest (wsV RX2 249 RX2 yX2_leastCost wsX2_leastCost) := goodIn_app (goodIn_of _ (by decide +kernel)) ggX2_takeCheapest_X2_leastCost
theorem dX2_takeCheapest_0 : decode cX2_takeCheapest 0 = .ok (.aload_n 0, 1) := by decide +kernel
theorem dX2_takeCheapest_1 : decode cX2_takeCheapest 1 = .ok (.invokevirtual 122, 3) := by decide +kernel
theorem dX2_takeCheapest_4 : decode cX2_takeCheapest 4 = .ok (.istore 4, 2) := by decide +kernel
theorem dX2_takeCheapest_6 : decode cX2_takeCheapest 6 = .ok (.aload_n 0, 1) := by decide +kernel
theorem dX2_takeCheapest_7 : decode cX2_takeCheapest 7 = .ok (.getfield 40, 3) := by decide +kernel
theorem dX2_takeCheapest_10 : decode cX2_takeCheapest 10 = .ok (.iconst 0, 1) := by decide +kernel
theorem dX2_takeCheapest_11 : decode cX2_takeCheapest 11 = .ok (.invokestatic 243, 3) := by decide +kernel
theorem dX2_takeCheapest_14 : decode cX2_takeCheapest 14 = .ok (.iconst 0, 1) := by decide +kernel
theorem dX2_takeCheapest_15 : decode cX2_takeCheapest 15 = .ok (.istore 5, 2) := by decide +kernel
theorem dX2_takeCheapest_17 : decode cX2_takeCheapest 17 = .ok (.iload 5, 2) := by decide +kernel
theorem dX2_takeCheapest_19 : decode cX2_takeCheapest 19 = .ok (.aload_n 0, 1) := by decide +kernel
theorem dX2_takeCheapest_20 : decode cX2_takeCheapest 20 = .ok (.getfield 44, 3) := by decide +kernel
theorem dX2_takeCheapest_23 : decode cX2_takeCheapest 23 = .ok (.if_icmp .ge 41, 3) := by decide +kernel
theorem dX2_takeCheapest_26 : decode cX2_takeCheapest 26 = .ok (.aload_n 0, 1) := by decide +kernel
theorem dX2_takeCheapest_27 : decode cX2_takeCheapest 27 = .ok (.getfield 36, 3) := by decide +kernel
theorem dX2_takeCheapest_30 : decode cX2_takeCheapest 30 = .ok (.iload 5, 2) := by decide +kernel
theorem dX2_takeCheapest_32 : decode cX2_takeCheapest 32 = .ok (.aload_n 0, 1) := by decide +kernel
theorem dX2_takeCheapest_33 : decode cX2_takeCheapest 33 = .ok (.getfield 11, 3) := by decide +kernel
theorem dX2_takeCheapest_36 : decode cX2_takeCheapest 36 = .ok (.iload 5, 2) := by decide +kernel
theorem dX2_takeCheapest_38 : decode cX2_takeCheapest 38 = .ok (.aaload, 1) := by decide +kernel
theorem dX2_takeCheapest_39 : decode cX2_takeCheapest 39 = .ok (.iload_n 2, 1) := by decide +kernel
theorem dX2_takeCheapest_40 : decode cX2_takeCheapest 40 = .ok (.invokevirtual 118, 3) := by decide +kernel
theorem dX2_takeCheapest_43 : decode cX2_takeCheapest 43 = .ok (.i2l, 1) := by decide +kernel
theorem dX2_takeCheapest_44 : decode cX2_takeCheapest 44 = .ok (.aload_n 0, 1) := by decide +kernel
theorem dX2_takeCheapest_45 : decode cX2_takeCheapest 45 = .ok (.getfield 11, 3) := by decide +kernel
theorem dX2_takeCheapest_48 : decode cX2_takeCheapest 48 = .ok (.iload 5, 2) := by decide +kernel
theorem dX2_takeCheapest_50 : decode cX2_takeCheapest 50 = .ok (.aaload, 1) := by decide +kernel
theorem dX2_takeCheapest_51 : decode cX2_takeCheapest 51 = .ok (.iload_n 3, 1) := by decide +kernel
theorem dX2_takeCheapest_52 : decode cX2_takeCheapest 52 = .ok (.i2l, 1) := by decide +kernel
theorem dX2_takeCheapest_53 : decode cX2_takeCheapest 53 = .ok (.invokevirtual 167, 3) := by decide +kernel
theorem dX2_takeCheapest_56 : decode cX2_takeCheapest 56 = .ok (.lsub, 1) := by decide +kernel
theorem dX2_takeCheapest_57 : decode cX2_takeCheapest 57 = .ok (.lastore, 1) := by decide +kernel
theorem dX2_takeCheapest_58 : decode cX2_takeCheapest 58 = .ok (.iinc 5 1, 3) := by decide +kernel
theorem dX2_takeCheapest_61 : decode cX2_takeCheapest 61 = .ok (.goto (-44), 3) := by decide +kernel
theorem dX2_takeCheapest_64 : decode cX2_takeCheapest 64 = .ok (.iload_n 1, 1) := by decide +kernel
theorem dX2_takeCheapest_65 : decode cX2_takeCheapest 65 = .ok (.istore 5, 2) := by decide +kernel
theorem dX2_takeCheapest_67 : decode cX2_takeCheapest 67 = .ok (.iconst 0, 1) := by decide +kernel
theorem dX2_takeCheapest_68 : decode cX2_takeCheapest 68 = .ok (.istore 6, 2) := by decide +kernel
theorem dX2_takeCheapest_70 : decode cX2_takeCheapest 70 = .ok (.iload 6, 2) := by decide +kernel
theorem dX2_takeCheapest_72 : decode cX2_takeCheapest 72 = .ok (.aload_n 0, 1) := by decide +kernel
theorem dX2_takeCheapest_73 : decode cX2_takeCheapest 73 = .ok (.getfield 44, 3) := by decide +kernel
theorem dX2_takeCheapest_76 : decode cX2_takeCheapest 76 = .ok (.if_icmp .ge 73, 3) := by decide +kernel
theorem dX2_takeCheapest_79 : decode cX2_takeCheapest 79 = .ok (.iload 4, 2) := by decide +kernel
theorem dX2_takeCheapest_81 : decode cX2_takeCheapest 81 = .ok (.ifCond .eq 68, 3) := by decide +kernel
theorem dX2_takeCheapest_84 : decode cX2_takeCheapest 84 = .ok (.aload_n 0, 1) := by decide +kernel
theorem dX2_takeCheapest_85 : decode cX2_takeCheapest 85 = .ok (.iload 4, 2) := by decide +kernel
theorem dX2_takeCheapest_87 : decode cX2_takeCheapest 87 = .ok (.invokevirtual 249, 3) := by decide +kernel
theorem dX2_takeCheapest_90 : decode cX2_takeCheapest 90 = .ok (.istore 7, 2) := by decide +kernel
theorem dX2_takeCheapest_92 : decode cX2_takeCheapest 92 = .ok (.iload 7, 2) := by decide +kernel
theorem dX2_takeCheapest_94 : decode cX2_takeCheapest 94 = .ok (.iconst (-1), 1) := by decide +kernel
theorem dX2_takeCheapest_95 : decode cX2_takeCheapest 95 = .ok (.if_icmp .eq 48, 3) := by decide +kernel
theorem dX2_takeCheapest_98 : decode cX2_takeCheapest 98 = .ok (.aload_n 0, 1) := by decide +kernel
theorem dX2_takeCheapest_99 : decode cX2_takeCheapest 99 = .ok (.getfield 40, 3) := by decide +kernel
theorem dX2_takeCheapest_102 : decode cX2_takeCheapest 102 = .ok (.iload 7, 2) := by decide +kernel
theorem dX2_takeCheapest_104 : decode cX2_takeCheapest 104 = .ok (.iload 5, 2) := by decide +kernel
theorem dX2_takeCheapest_106 : decode cX2_takeCheapest 106 = .ok (.aload_n 0, 1) := by decide +kernel
theorem dX2_takeCheapest_107 : decode cX2_takeCheapest 107 = .ok (.getfield 11, 3) := by decide +kernel
theorem dX2_takeCheapest_110 : decode cX2_takeCheapest 110 = .ok (.iload 7, 2) := by decide +kernel
theorem dX2_takeCheapest_112 : decode cX2_takeCheapest 112 = .ok (.aaload, 1) := by decide +kernel
theorem dX2_takeCheapest_113 : decode cX2_takeCheapest 113 = .ok (.getfield 98, 3) := by decide +kernel
theorem dX2_takeCheapest_116 : decode cX2_takeCheapest 116 = .ok (.invokestatic 252, 3) := by decide +kernel
theorem dX2_takeCheapest_119 : decode cX2_takeCheapest 119 = .ok (.iastore, 1) := by decide +kernel
theorem dX2_takeCheapest_120 : decode cX2_takeCheapest 120 = .ok (.iload 5, 2) := by decide +kernel
theorem dX2_takeCheapest_122 : decode cX2_takeCheapest 122 = .ok (.aload_n 0, 1) := by decide +kernel
theorem dX2_takeCheapest_123 : decode cX2_takeCheapest 123 = .ok (.getfield 40, 3) := by decide +kernel
theorem dX2_takeCheapest_126 : decode cX2_takeCheapest 126 = .ok (.iload 7, 2) := by decide +kernel
theorem dX2_takeCheapest_128 : decode cX2_takeCheapest 128 = .ok (.iaload, 1) := by decide +kernel
theorem dX2_takeCheapest_129 : decode cX2_takeCheapest 129 = .ok (.isub, 1) := by decide +kernel
theorem dX2_takeCheapest_130 : decode cX2_takeCheapest 130 = .ok (.istore 5, 2) := by decide +kernel
theorem dX2_takeCheapest_132 : decode cX2_takeCheapest 132 = .ok (.iload 4, 2) := by decide +kernel
theorem dX2_takeCheapest_134 : decode cX2_takeCheapest 134 = .ok (.iconst 1, 1) := by decide +kernel
theorem dX2_takeCheapest_135 : decode cX2_takeCheapest 135 = .ok (.iload 7, 2) := by decide +kernel
theorem dX2_takeCheapest_137 : decode cX2_takeCheapest 137 = .ok (.ishl, 1) := by decide +kernel
theorem dX2_takeCheapest_138 : decode cX2_takeCheapest 138 = .ok (.iconst (-1), 1) := by decide +kernel
theorem dX2_takeCheapest_139 : decode cX2_takeCheapest 139 = .ok (.ixor, 1) := by decide +kernel
theorem dX2_takeCheapest_140 : decode cX2_takeCheapest 140 = .ok (.iand, 1) := by decide +kernel
theorem dX2_takeCheapest_141 : decode cX2_takeCheapest 141 = .ok (.istore 4, 2) := by decide +kernel
theorem dX2_takeCheapest_143 : decode cX2_takeCheapest 143 = .ok (.iinc 6 1, 3) := by decide +kernel
theorem dX2_takeCheapest_146 : decode cX2_takeCheapest 146 = .ok (.goto (-76), 3) := by decide +kernel
theorem dX2_takeCheapest_149 : decode cX2_takeCheapest 149 = .ok (.iload 5, 2) := by decide +kernel
theorem dX2_takeCheapest_151 : decode cX2_takeCheapest 151 = .ok (.ifCond .ne 7, 3) := by decide +kernel
theorem dX2_takeCheapest_154 : decode cX2_takeCheapest 154 = .ok (.iconst 1, 1) := by decide +kernel
theorem dX2_takeCheapest_155 : decode cX2_takeCheapest 155 = .ok (.goto 4, 3) := by decide +kernel
theorem dX2_takeCheapest_158 : decode cX2_takeCheapest 158 = .ok (.iconst 0, 1) := by decide +kernel
theorem dX2_takeCheapest_159 : decode cX2_takeCheapest 159 = .ok (.ireturn, 1) := by decide +kernel
set_option maxRecDepth 20000 in
theorem ggX2_leastCost_X2_isIn : GoodIn wsX2_leastCost wsX2_isIn := goodIn_r _ [6] (by decide +kernel) (by decide +kernel)
set_option maxRecDepth 20000 in
theorem gX2_leastCost_X2_isIn : GoodIn wsX2_leastCost (va_wsS RX2 152 yX2_isIn wsX2_isIn) := goodIn_app (goodIn_of _ (by decide +kernel)) ggX2_leastCost_X2_isIn
theorem dX2_leastCost_0 : decode cX2_leastCost 0 = .ok (.iconst (-1), 1) := by decide +kernel
theorem dX2_leastCost_1 : decode cX2_leastCost 1 = .ok (.istore_n 2, 1) := by decide +kernel
theorem dX2_leastCost_2 : decode cX2_leastCost 2 = .ok (.iconst 0, 1) := by decide +kernel
theorem dX2_leastCost_3 : decode cX2_leastCost 3 = .ok (.istore_n 3, 1) := by decide +kernel
theorem dX2_leastCost_4 : decode cX2_leastCost 4 = .ok (.iload_n 3, 1) := by decide +kernel
theorem dX2_leastCost_5 : decode cX2_leastCost 5 = .ok (.aload_n 0, 1) := by decide +kernel
theorem dX2_leastCost_6 : decode cX2_leastCost 6 = .ok (.getfield 44, 3) := by decide +kernel
theorem dX2_leastCost_9 : decode cX2_leastCost 9 = .ok (.if_icmp .ge 40, 3) := by decide +kernel
theorem dX2_leastCost_12 : decode cX2_leastCost 12 = .ok (.iload_n 1, 1) := by decide +kernel
theorem dX2_leastCost_13 : decode cX2_leastCost 13 = .ok (.iload_n 3, 1) := by decide +kernel
theorem dX2_leastCost_14 : decode cX2_leastCost 14 = .ok (.invokestatic 152, 3) := by decide +kernel
theorem dX2_leastCost_17 : decode cX2_leastCost 17 = .ok (.ifCond .eq 26, 3) := by decide +kernel
theorem dX2_leastCost_20 : decode cX2_leastCost 20 = .ok (.iload_n 2, 1) := by decide +kernel
theorem dX2_leastCost_21 : decode cX2_leastCost 21 = .ok (.iconst (-1), 1) := by decide +kernel
theorem dX2_leastCost_22 : decode cX2_leastCost 22 = .ok (.if_icmp .eq 19, 3) := by decide +kernel
theorem dX2_leastCost_25 : decode cX2_leastCost 25 = .ok (.aload_n 0, 1) := by decide +kernel
theorem dX2_leastCost_26 : decode cX2_leastCost 26 = .ok (.getfield 36, 3) := by decide +kernel
theorem dX2_leastCost_29 : decode cX2_leastCost 29 = .ok (.iload_n 3, 1) := by decide +kernel
theorem dX2_leastCost_30 : decode cX2_leastCost 30 = .ok (.laload, 1) := by decide +kernel
theorem dX2_leastCost_31 : decode cX2_leastCost 31 = .ok (.aload_n 0, 1) := by decide +kernel
theorem dX2_leastCost_32 : decode cX2_leastCost 32 = .ok (.getfield 36, 3) := by decide +kernel
theorem dX2_leastCost_35 : decode cX2_leastCost 35 = .ok (.iload_n 2, 1) := by decide +kernel
theorem dX2_leastCost_36 : decode cX2_leastCost 36 = .ok (.laload, 1) := by decide +kernel
theorem dX2_leastCost_37 : decode cX2_leastCost 37 = .ok (.lcmp, 1) := by decide +kernel
theorem dX2_leastCost_38 : decode cX2_leastCost 38 = .ok (.ifCond .ge 5, 3) := by decide +kernel
theorem dX2_leastCost_41 : decode cX2_leastCost 41 = .ok (.iload_n 3, 1) := by decide +kernel
theorem dX2_leastCost_42 : decode cX2_leastCost 42 = .ok (.istore_n 2, 1) := by decide +kernel
theorem dX2_leastCost_43 : decode cX2_leastCost 43 = .ok (.iinc 3 1, 3) := by decide +kernel
theorem dX2_leastCost_46 : decode cX2_leastCost 46 = .ok (.goto (-42), 3) := by decide +kernel
theorem dX2_leastCost_49 : decode cX2_leastCost 49 = .ok (.iload_n 2, 1) := by decide +kernel
theorem dX2_leastCost_50 : decode cX2_leastCost 50 = .ok (.ireturn, 1) := by decide +kernel
set_option maxRecDepth 20000 in
theorem ggX2_valueBy_X1_layPrices : GoodIn wsX2_valueBy wsX1_layPrices := goodIn_r _ [10, 11, 12, 13, 14, 15, 9, 16, 17, 18, 19, 20, 21, 22, 23, 24, 25, 26, 27, 28, 29, 30, 31, 32, 33, 34, 35, 36, 37, 38, 39, 40, 41, 42, 43, 44, 45, 46, 47, 95, 96, 97, 98, 99, 100, 101, 102, 103, 104, 105, 106, 107, 108, 109, 110, 111, 112, 113, 114, 115, 116] (by decide +kernel) (by decide +kernel)
set_option maxRecDepth 20000 in
theorem gX2_valueBy_X1_layPrices : GoodIn wsX2_valueBy (wsV RX2 220 RX1 yX1_layPrices wsX1_layPrices) := goodIn_app (goodIn_of _ (by decide +kernel)) ggX2_valueBy_X1_layPrices
set_option maxRecDepth 20000 in
theorem ggX2_valueBy_X1_layNow : GoodIn wsX2_valueBy wsX1_layNow := goodIn_r _ [51, 52, 11, 53, 54, 12, 55, 39, 56, 57, 58, 59, 29, 60, 61, 47, 62, 63, 64, 9, 65, 95, 96, 97, 98, 99, 100, 101, 102, 103, 104, 105, 106, 107, 108, 109, 110, 111, 112, 113, 114, 115, 116] (by decide +kernel) (by decide +kernel)
set_option maxRecDepth 20000 in
theorem gX2_valueBy_X1_layNow : GoodIn wsX2_valueBy (wsV RX2 223 RX1 yX1_layNow wsX1_layNow) := goodIn_app (goodIn_of _ (by decide +kernel)) ggX2_valueBy_X1_layNow
set_option maxRecDepth 20000 in
theorem ggX2_valueBy_X1_rollBack : GoodIn wsX2_valueBy wsX1_rollBack := goodIn_r _ [69, 70, 71, 72, 54, 73, 74, 75, 76, 9, 77, 53, 78, 79, 80, 81, 11, 82, 83, 84, 85, 95, 96, 97, 98, 99, 100, 101, 102, 103, 104, 105, 106] (by decide +kernel) (by decide +kernel)
set_option maxRecDepth 20000 in
theorem gX2_valueBy_X1_rollBack : GoodIn wsX2_valueBy (wsV RX2 227 RX1 yX1_rollBack wsX1_rollBack) := goodIn_app (goodIn_of _ (by decide +kernel)) ggX2_valueBy_X1_rollBack
theorem dX2_valueBy_0 : decode cX2_valueBy 0 = .ok (.aload_n 0, 1) := by decide +kernel
theorem dX2_valueBy_1 : decode cX2_valueBy 1 = .ok (.getfield 28, 3) := by decide +kernel
theorem dX2_valueBy_4 : decode cX2_valueBy 4 = .ok (.aload_n 0, 1) := by decide +kernel
theorem dX2_valueBy_5 : decode cX2_valueBy 5 = .ok (.getfield 11, 3) := by decide +kernel
theorem dX2_valueBy_8 : decode cX2_valueBy 8 = .ok (.aload_n 0, 1) := by decide +kernel
theorem dX2_valueBy_9 : decode cX2_valueBy 9 = .ok (.getfield 44, 3) := by decide +kernel
theorem dX2_valueBy_12 : decode cX2_valueBy 12 = .ok (.invokevirtual 220, 3) := by decide +kernel
theorem dX2_valueBy_15 : decode cX2_valueBy 15 = .ok (.aload_n 0, 1) := by decide +kernel
theorem dX2_valueBy_16 : decode cX2_valueBy 16 = .ok (.getfield 28, 3) := by decide +kernel
theorem dX2_valueBy_19 : decode cX2_valueBy 19 = .ok (.aload_n 0, 1) := by decide +kernel
theorem dX2_valueBy_20 : decode cX2_valueBy 20 = .ok (.getfield 11, 3) := by decide +kernel
theorem dX2_valueBy_23 : decode cX2_valueBy 23 = .ok (.iload_n 1, 1) := by decide +kernel
theorem dX2_valueBy_24 : decode cX2_valueBy 24 = .ok (.aload_n 0, 1) := by decide +kernel
theorem dX2_valueBy_25 : decode cX2_valueBy 25 = .ok (.getfield 28, 3) := by decide +kernel
theorem dX2_valueBy_28 : decode cX2_valueBy 28 = .ok (.getfield 141, 3) := by decide +kernel
theorem dX2_valueBy_31 : decode cX2_valueBy 31 = .ok (.invokevirtual 223, 3) := by decide +kernel
theorem dX2_valueBy_34 : decode cX2_valueBy 34 = .ok (.aload_n 0, 1) := by decide +kernel
theorem dX2_valueBy_35 : decode cX2_valueBy 35 = .ok (.getfield 28, 3) := by decide +kernel
theorem dX2_valueBy_38 : decode cX2_valueBy 38 = .ok (.aload_n 0, 1) := by decide +kernel
theorem dX2_valueBy_39 : decode cX2_valueBy 39 = .ok (.getfield 28, 3) := by decide +kernel
theorem dX2_valueBy_42 : decode cX2_valueBy 42 = .ok (.getfield 129, 3) := by decide +kernel
theorem dX2_valueBy_45 : decode cX2_valueBy 45 = .ok (.iconst 1, 1) := by decide +kernel
theorem dX2_valueBy_46 : decode cX2_valueBy 46 = .ok (.invokevirtual 227, 3) := by decide +kernel
theorem dX2_valueBy_49 : decode cX2_valueBy 49 = .ok (.lreturn, 1) := by decide +kernel
theorem dX3_init_0 : decode cX3_init 0 = .ok (.aload_n 0, 1) := by decide +kernel
theorem dX3_init_1 : decode cX3_init 1 = .ok (.invokespecial 1, 3) := by decide +kernel
theorem dX3_init_4 : decode cX3_init 4 = .ok (.aload_n 0, 1) := by decide +kernel
theorem dX3_init_5 : decode cX3_init 5 = .ok (.bipush 56, 2) := by decide +kernel
theorem dX3_init_7 : decode cX3_init 7 = .ok (.newarray .int, 2) := by decide +kernel
theorem dX3_init_9 : decode cX3_init 9 = .ok (.putfield 7, 3) := by decide +kernel
theorem dX3_init_12 : decode cX3_init 12 = .ok (.aload_n 0, 1) := by decide +kernel
theorem dX3_init_13 : decode cX3_init 13 = .ok (.sipush 600, 3) := by decide +kernel
theorem dX3_init_16 : decode cX3_init 16 = .ok (.putfield 13, 3) := by decide +kernel
theorem dX3_init_19 : decode cX3_init 19 = .ok (.aload_n 0, 1) := by decide +kernel
theorem dX3_init_20 : decode cX3_init 20 = .ok (.iconst 1, 1) := by decide +kernel
theorem dX3_init_21 : decode cX3_init 21 = .ok (.putfield 17, 3) := by decide +kernel
theorem dX3_init_24 : decode cX3_init 24 = .ok (.aload_n 0, 1) := by decide +kernel
theorem dX3_init_25 : decode cX3_init 25 = .ok (.bipush 40, 2) := by decide +kernel
theorem dX3_init_27 : decode cX3_init 27 = .ok (.putfield 20, 3) := by decide +kernel
theorem dX3_init_30 : decode cX3_init 30 = .ok (.aload_n 0, 1) := by decide +kernel
theorem dX3_init_31 : decode cX3_init 31 = .ok (.sipush 600, 3) := by decide +kernel
theorem dX3_init_34 : decode cX3_init 34 = .ok (.putfield 23, 3) := by decide +kernel
theorem dX3_init_37 : decode cX3_init 37 = .ok (.aload_n 0, 1) := by decide +kernel
theorem dX3_init_38 : decode cX3_init 38 = .ok (.bipush 10, 2) := by decide +kernel
theorem dX3_init_40 : decode cX3_init 40 = .ok (.putfield 26, 3) := by decide +kernel
theorem dX3_init_43 : decode cX3_init 43 = .ok (.aload_n 0, 1) := by decide +kernel
theorem dX3_init_44 : decode cX3_init 44 = .ok (.ldc 29, 2) := by decide +kernel
theorem dX3_init_46 : decode cX3_init 46 = .ok (.putfield 30, 3) := by decide +kernel
theorem dX3_init_49 : decode cX3_init 49 = .ok (.aload_n 0, 1) := by decide +kernel
theorem dX3_init_50 : decode cX3_init 50 = .ok (.iconst (-1), 1) := by decide +kernel
theorem dX3_init_51 : decode cX3_init 51 = .ok (.putfield 33, 3) := by decide +kernel
theorem dX3_init_54 : decode cX3_init 54 = .ok (.aload_n 0, 1) := by decide +kernel
theorem dX3_init_55 : decode cX3_init 55 = .ok (.iconst (-1), 1) := by decide +kernel
theorem dX3_init_56 : decode cX3_init 56 = .ok (.putfield 36, 3) := by decide +kernel
theorem dX3_init_59 : decode cX3_init 59 = .ok (.aload_n 0, 1) := by decide +kernel
theorem dX3_init_60 : decode cX3_init 60 = .ok (.bipush 8, 2) := by decide +kernel
theorem dX3_init_62 : decode cX3_init 62 = .ok (.newarray .int, 2) := by decide +kernel
theorem dX3_init_64 : decode cX3_init 64 = .ok (.putfield 39, 3) := by decide +kernel
theorem dX3_init_67 : decode cX3_init 67 = .ok (.aload_n 0, 1) := by decide +kernel
theorem dX3_init_68 : decode cX3_init 68 = .ok (.bipush 8, 2) := by decide +kernel
theorem dX3_init_70 : decode cX3_init 70 = .ok (.newarray .long, 2) := by decide +kernel
theorem dX3_init_72 : decode cX3_init 72 = .ok (.putfield 42, 3) := by decide +kernel
theorem dX3_init_75 : decode cX3_init 75 = .ok (.aload_n 0, 1) := by decide +kernel
theorem dX3_init_76 : decode cX3_init 76 = .ok (.sipush 441, 3) := by decide +kernel
theorem dX3_init_79 : decode cX3_init 79 = .ok (.newarray .long, 2) := by decide +kernel
theorem dX3_init_81 : decode cX3_init 81 = .ok (.putfield 46, 3) := by decide +kernel
theorem dX3_init_84 : decode cX3_init 84 = .ok (.aload_n 0, 1) := by decide +kernel
theorem dX3_init_85 : decode cX3_init 85 = .ok (.sipush 441, 3) := by decide +kernel
theorem dX3_init_88 : decode cX3_init 88 = .ok (.newarray .long, 2) := by decide +kernel
theorem dX3_init_90 : decode cX3_init 90 = .ok (.putfield 49, 3) := by decide +kernel
theorem dX3_init_93 : decode cX3_init 93 = .ok (.aload_n 0, 1) := by decide +kernel
theorem dX3_init_94 : decode cX3_init 94 = .ok (.sipush 441, 3) := by decide +kernel
theorem dX3_init_97 : decode cX3_init 97 = .ok (.newarray .long, 2) := by decide +kernel
theorem dX3_init_99 : decode cX3_init 99 = .ok (.putfield 52, 3) := by decide +kernel
theorem dX3_init_102 : decode cX3_init 102 = .ok (.aload_n 0, 1) := by decide +kernel
theorem dX3_init_103 : decode cX3_init 103 = .ok (.sipush 441, 3) := by decide +kernel
theorem dX3_init_106 : decode cX3_init 106 = .ok (.newarray .int, 2) := by decide +kernel
theorem dX3_init_108 : decode cX3_init 108 = .ok (.putfield 55, 3) := by decide +kernel
theorem dX3_init_111 : decode cX3_init 111 = .ok (.aload_n 0, 1) := by decide +kernel
theorem dX3_init_112 : decode cX3_init 112 = .ok (.sipush 441, 3) := by decide +kernel
theorem dX3_init_115 : decode cX3_init 115 = .ok (.newarray .int, 2) := by decide +kernel
theorem dX3_init_117 : decode cX3_init 117 = .ok (.putfield 58, 3) := by decide +kernel
theorem dX3_init_120 : decode cX3_init 120 = .ok (.return_, 1) := by decide +kernel
theorem dX3_thrown_0 : decode cX3_thrown 0 = .ok (.aload_n 0, 1) := by decide +kernel
theorem dX3_thrown_1 : decode cX3_thrown 1 = .ok (.getfield 61, 3) := by decide +kernel
theorem dX3_thrown_4 : decode cX3_thrown 4 = .ok (.ireturn, 1) := by decide +kernel
theorem dX3_isIn_0 : decode cX3_isIn 0 = .ok (.lload_n 0, 1) := by decide +kernel
theorem dX3_isIn_1 : decode cX3_isIn 1 = .ok (.lload_n 2, 1) := by decide +kernel
theorem dX3_isIn_2 : decode cX3_isIn 2 = .ok (.lcmp, 1) := by decide +kernel
theorem dX3_isIn_3 : decode cX3_isIn 3 = .ok (.ifCond .lt 14, 3) := by decide +kernel
theorem dX3_isIn_6 : decode cX3_isIn 6 = .ok (.lload_n 0, 1) := by decide +kernel
theorem dX3_isIn_7 : decode cX3_isIn 7 = .ok (.lload 4, 2) := by decide +kernel
theorem dX3_isIn_9 : decode cX3_isIn 9 = .ok (.lcmp, 1) := by decide +kernel
theorem dX3_isIn_10 : decode cX3_isIn 10 = .ok (.ifCond .gt 7, 3) := by decide +kernel
theorem dX3_isIn_13 : decode cX3_isIn 13 = .ok (.iconst 1, 1) := by decide +kernel
theorem dX3_isIn_14 : decode cX3_isIn 14 = .ok (.goto 4, 3) := by decide +kernel
theorem dX3_isIn_17 : decode cX3_isIn 17 = .ok (.iconst 0, 1) := by decide +kernel
theorem dX3_isIn_18 : decode cX3_isIn 18 = .ok (.ireturn, 1) := by decide +kernel
theorem dX3_down_0 : decode cX3_down 0 = .ok (.lload_n 0, 1) := by decide +kernel
theorem dX3_down_1 : decode cX3_down 1 = .ok (.lload_n 2, 1) := by decide +kernel
theorem dX3_down_2 : decode cX3_down 2 = .ok (.ldiv, 1) := by decide +kernel
theorem dX3_down_3 : decode cX3_down 3 = .ok (.lstore 4, 2) := by decide +kernel
theorem dX3_down_5 : decode cX3_down 5 = .ok (.lload_n 0, 1) := by decide +kernel
theorem dX3_down_6 : decode cX3_down 6 = .ok (.lload_n 2, 1) := by decide +kernel
theorem dX3_down_7 : decode cX3_down 7 = .ok (.lrem, 1) := by decide +kernel
theorem dX3_down_8 : decode cX3_down 8 = .ok (.lconst 0, 1) := by decide +kernel
theorem dX3_down_9 : decode cX3_down 9 = .ok (.lcmp, 1) := by decide +kernel
theorem dX3_down_10 : decode cX3_down 10 = .ok (.ifCond .ge 10, 3) := by decide +kernel
theorem dX3_down_13 : decode cX3_down 13 = .ok (.lload 4, 2) := by decide +kernel
theorem dX3_down_15 : decode cX3_down 15 = .ok (.lconst 1, 1) := by decide +kernel
theorem dX3_down_16 : decode cX3_down 16 = .ok (.lsub, 1) := by decide +kernel
theorem dX3_down_17 : decode cX3_down 17 = .ok (.goto 5, 3) := by decide +kernel
theorem dX3_down_20 : decode cX3_down 20 = .ok (.lload 4, 2) := by decide +kernel
theorem dX3_down_22 : decode cX3_down 22 = .ok (.lreturn, 1) := by decide +kernel
theorem dX3_refuse_0 : decode cX3_refuse 0 = .ok (.aload_n 0, 1) := by decide +kernel
theorem dX3_refuse_1 : decode cX3_refuse 1 = .ok (.iconst 1, 1) := by decide +kernel
theorem dX3_refuse_2 : decode cX3_refuse 2 = .ok (.putfield 61, 3) := by decide +kernel
theorem dX3_refuse_5 : decode cX3_refuse 5 = .ok (.iconst 0, 1) := by decide +kernel
theorem dX3_refuse_6 : decode cX3_refuse 6 = .ok (.ireturn, 1) := by decide +kernel
set_option maxRecDepth 20000 in
theorem ggX3_isBond_X3_isIn : GoodIn wsX3_isBond wsX3_isIn := goodIn_r _ [5] (by decide +kernel) (by decide +kernel)
set_option maxRecDepth 20000 in
theorem gX3_isBond_X3_isIn : GoodIn wsX3_isBond (va_wsS RX3 67 yX3_isIn wsX3_isIn) := goodIn_app (goodIn_of _ (by decide +kernel)) ggX3_isBond_X3_isIn
theorem dX3_isBond_0 : decode cX3_isBond 0 = .ok (.iload_n 1, 1) := by decide +kernel
theorem dX3_isBond_1 : decode cX3_isBond 1 = .ok (.i2l, 1) := by decide +kernel
theorem dX3_isBond_2 : decode cX3_isBond 2 = .ok (.lconst 0, 1) := by decide +kernel
theorem dX3_isBond_3 : decode cX3_isBond 3 = .ok (.aload_n 0, 1) := by decide +kernel
theorem dX3_isBond_4 : decode cX3_isBond 4 = .ok (.getfield 64, 3) := by decide +kernel
theorem dX3_isBond_7 : decode cX3_isBond 7 = .ok (.iconst 1, 1) := by decide +kernel
theorem dX3_isBond_8 : decode cX3_isBond 8 = .ok (.isub, 1) := by decide +kernel
theorem dX3_isBond_9 : decode cX3_isBond 9 = .ok (.i2l, 1) := by decide +kernel
theorem dX3_isBond_10 : decode cX3_isBond 10 = .ok (.invokestatic 67, 3) := by decide +kernel
theorem dX3_isBond_13 : decode cX3_isBond 13 = .ok (.ireturn, 1) := by decide +kernel
theorem dX3_of1_0 : decode cX3_of1 0 = .ok (.aload_n 0, 1) := by decide +kernel
theorem dX3_of1_1 : decode cX3_of1 1 = .ok (.getfield 7, 3) := by decide +kernel
theorem dX3_of1_4 : decode cX3_of1 4 = .ok (.bipush 7, 2) := by decide +kernel
theorem dX3_of1_6 : decode cX3_of1 6 = .ok (.iload_n 1, 1) := by decide +kernel
theorem dX3_of1_7 : decode cX3_of1 7 = .ok (.imul, 1) := by decide +kernel
theorem dX3_of1_8 : decode cX3_of1 8 = .ok (.iload_n 2, 1) := by decide +kernel
theorem dX3_of1_9 : decode cX3_of1 9 = .ok (.iadd, 1) := by decide +kernel
theorem dX3_of1_10 : decode cX3_of1 10 = .ok (.iaload, 1) := by decide +kernel
theorem dX3_of1_11 : decode cX3_of1 11 = .ok (.ireturn, 1) := by decide +kernel
set_option maxRecDepth 20000 in
theorem ggX3_isGood_X3_isIn : GoodIn wsX3_isGood wsX3_isIn := goodIn_r _ [10] (by decide +kernel) (by decide +kernel)
set_option maxRecDepth 20000 in
theorem gX3_isGood_X3_isIn : GoodIn wsX3_isGood (va_wsS RX3 67 yX3_isIn wsX3_isIn) := goodIn_app (goodIn_of _ (by decide +kernel)) ggX3_isGood_X3_isIn
theorem dX3_isGood_0 : decode cX3_isGood 0 = .ok (.iload_n 0, 1) := by decide +kernel
theorem dX3_isGood_1 : decode cX3_isGood 1 = .ok (.i2l, 1) := by decide +kernel
theorem dX3_isGood_2 : decode cX3_isGood 2 = .ok (.lconst 0, 1) := by decide +kernel
theorem dX3_isGood_3 : decode cX3_isGood 3 = .ok (.ldc2_w 71, 3) := by decide +kernel
theorem dX3_isGood_6 : decode cX3_isGood 6 = .ok (.invokestatic 67, 3) := by decide +kernel
theorem dX3_isGood_9 : decode cX3_isGood 9 = .ok (.ifCond .eq 42, 3) := by decide +kernel
theorem dX3_isGood_12 : decode cX3_isGood 12 = .ok (.iload_n 1, 1) := by decide +kernel
theorem dX3_isGood_13 : decode cX3_isGood 13 = .ok (.i2l, 1) := by decide +kernel
theorem dX3_isGood_14 : decode cX3_isGood 14 = .ok (.lconst 0, 1) := by decide +kernel
theorem dX3_isGood_15 : decode cX3_isGood 15 = .ok (.ldc2_w 73, 3) := by decide +kernel
theorem dX3_isGood_18 : decode cX3_isGood 18 = .ok (.invokestatic 67, 3) := by decide +kernel
theorem dX3_isGood_21 : decode cX3_isGood 21 = .ok (.ifCond .eq 30, 3) := by decide +kernel
theorem dX3_isGood_24 : decode cX3_isGood 24 = .ok (.iload_n 2, 1) := by decide +kernel
theorem dX3_isGood_25 : decode cX3_isGood 25 = .ok (.i2l, 1) := by decide +kernel
theorem dX3_isGood_26 : decode cX3_isGood 26 = .ok (.lconst 1, 1) := by decide +kernel
theorem dX3_isGood_27 : decode cX3_isGood 27 = .ok (.ldc2_w 75, 3) := by decide +kernel
theorem dX3_isGood_30 : decode cX3_isGood 30 = .ok (.invokestatic 67, 3) := by decide +kernel
theorem dX3_isGood_33 : decode cX3_isGood 33 = .ok (.ifCond .eq 18, 3) := by decide +kernel
theorem dX3_isGood_36 : decode cX3_isGood 36 = .ok (.iload 4, 2) := by decide +kernel
theorem dX3_isGood_38 : decode cX3_isGood 38 = .ok (.i2l, 1) := by decide +kernel
theorem dX3_isGood_39 : decode cX3_isGood 39 = .ok (.ldc2_w 77, 3) := by decide +kernel
theorem dX3_isGood_42 : decode cX3_isGood 42 = .ok (.ldc2_w 79, 3) := by decide +kernel
theorem dX3_isGood_45 : decode cX3_isGood 45 = .ok (.invokestatic 67, 3) := by decide +kernel
theorem dX3_isGood_48 : decode cX3_isGood 48 = .ok (.ifCond .ne 5, 3) := by decide +kernel
theorem dX3_isGood_51 : decode cX3_isGood 51 = .ok (.iconst 0, 1) := by decide +kernel
theorem dX3_isGood_52 : decode cX3_isGood 52 = .ok (.ireturn, 1) := by decide +kernel
theorem dX3_isGood_53 : decode cX3_isGood 53 = .ok (.iload_n 0, 1) := by decide +kernel
theorem dX3_isGood_54 : decode cX3_isGood 54 = .ok (.iconst 1, 1) := by decide +kernel
theorem dX3_isGood_55 : decode cX3_isGood 55 = .ok (.if_icmp .ne 13, 3) := by decide +kernel
theorem dX3_isGood_58 : decode cX3_isGood 58 = .ok (.iload_n 3, 1) := by decide +kernel
theorem dX3_isGood_59 : decode cX3_isGood 59 = .ok (.i2l, 1) := by decide +kernel
theorem dX3_isGood_60 : decode cX3_isGood 60 = .ok (.lconst 1, 1) := by decide +kernel
theorem dX3_isGood_61 : decode cX3_isGood 61 = .ok (.ldc2_w 81, 3) := by decide +kernel
theorem dX3_isGood_64 : decode cX3_isGood 64 = .ok (.invokestatic 67, 3) := by decide +kernel
theorem dX3_isGood_67 : decode cX3_isGood 67 = .ok (.ireturn, 1) := by decide +kernel
theorem dX3_isGood_68 : decode cX3_isGood 68 = .ok (.iload_n 0, 1) := by decide +kernel
theorem dX3_isGood_69 : decode cX3_isGood 69 = .ok (.iconst 2, 1) := by decide +kernel
theorem dX3_isGood_70 : decode cX3_isGood 70 = .ok (.if_icmp .ne 12, 3) := by decide +kernel
theorem dX3_isGood_73 : decode cX3_isGood 73 = .ok (.iload_n 3, 1) := by decide +kernel
theorem dX3_isGood_74 : decode cX3_isGood 74 = .ok (.i2l, 1) := by decide +kernel
theorem dX3_isGood_75 : decode cX3_isGood 75 = .ok (.lconst 1, 1) := by decide +kernel
theorem dX3_isGood_76 : decode cX3_isGood 76 = .ok (.iload_n 2, 1) := by decide +kernel
theorem dX3_isGood_77 : decode cX3_isGood 77 = .ok (.i2l, 1) := by decide +kernel
theorem dX3_isGood_78 : decode cX3_isGood 78 = .ok (.invokestatic 67, 3) := by decide +kernel
theorem dX3_isGood_81 : decode cX3_isGood 81 = .ok (.ireturn, 1) := by decide +kernel
theorem dX3_isGood_82 : decode cX3_isGood 82 = .ok (.iload_n 3, 1) := by decide +kernel
theorem dX3_isGood_83 : decode cX3_isGood 83 = .ok (.ifCond .ne 15, 3) := by decide +kernel
theorem dX3_isGood_86 : decode cX3_isGood 86 = .ok (.iload_n 0, 1) := by decide +kernel
theorem dX3_isGood_87 : decode cX3_isGood 87 = .ok (.ifCond .eq 7, 3) := by decide +kernel
theorem dX3_isGood_90 : decode cX3_isGood 90 = .ok (.iload_n 1, 1) := by decide +kernel
theorem dX3_isGood_91 : decode cX3_isGood 91 = .ok (.ifCond .ne 7, 3) := by decide +kernel
theorem dX3_isGood_94 : decode cX3_isGood 94 = .ok (.iconst 1, 1) := by decide +kernel
theorem dX3_isGood_95 : decode cX3_isGood 95 = .ok (.goto 4, 3) := by decide +kernel
theorem dX3_isGood_98 : decode cX3_isGood 98 = .ok (.iconst 0, 1) := by decide +kernel
theorem dX3_isGood_99 : decode cX3_isGood 99 = .ok (.ireturn, 1) := by decide +kernel
set_option maxRecDepth 20000 in
theorem ggX3_bond_X3_isGood : GoodIn wsX3_bond wsX3_isGood := goodIn_r _ [7, 8, 9, 10, 11, 12, 13, 14, 15, 6, 16] (by decide +kernel) (by decide +kernel)
set_option maxRecDepth 20000 in
theorem gX3_bond_X3_isGood : GoodIn wsX3_bond (va_wsS RX3 83 yX3_isGood wsX3_isGood) := goodIn_app (goodIn_of _ (by decide +kernel)) ggX3_bond_X3_isGood
theorem dX3_bond_0 : decode cX3_bond 0 = .ok (.aload_n 0, 1) := by decide +kernel
theorem dX3_bond_1 : decode cX3_bond 1 = .ok (.iconst 0, 1) := by decide +kernel
theorem dX3_bond_2 : decode cX3_bond 2 = .ok (.putfield 61, 3) := by decide +kernel
theorem dX3_bond_5 : decode cX3_bond 5 = .ok (.aload_n 0, 1) := by decide +kernel
theorem dX3_bond_6 : decode cX3_bond 6 = .ok (.getfield 64, 3) := by decide +kernel
theorem dX3_bond_9 : decode cX3_bond 9 = .ok (.bipush 8, 2) := by decide +kernel
theorem dX3_bond_11 : decode cX3_bond 11 = .ok (.if_icmp .eq 16, 3) := by decide +kernel
theorem dX3_bond_14 : decode cX3_bond 14 = .ok (.iload_n 1, 1) := by decide +kernel
theorem dX3_bond_15 : decode cX3_bond 15 = .ok (.iload_n 2, 1) := by decide +kernel
theorem dX3_bond_16 : decode cX3_bond 16 = .ok (.iload_n 3, 1) := by decide +kernel
theorem dX3_bond_17 : decode cX3_bond 17 = .ok (.iload 4, 2) := by decide +kernel
theorem dX3_bond_19 : decode cX3_bond 19 = .ok (.iload 5, 2) := by decide +kernel
theorem dX3_bond_21 : decode cX3_bond 21 = .ok (.invokestatic 83, 3) := by decide +kernel
theorem dX3_bond_24 : decode cX3_bond 24 = .ok (.ifCond .ne 5, 3) := by decide +kernel
theorem dX3_bond_27 : decode cX3_bond 27 = .ok (.iconst (-1), 1) := by decide +kernel
theorem dX3_bond_28 : decode cX3_bond 28 = .ok (.ireturn, 1) := by decide +kernel
theorem dX3_bond_29 : decode cX3_bond 29 = .ok (.bipush 7, 2) := by decide +kernel
theorem dX3_bond_31 : decode cX3_bond 31 = .ok (.aload_n 0, 1) := by decide +kernel
theorem dX3_bond_32 : decode cX3_bond 32 = .ok (.getfield 64, 3) := by decide +kernel
theorem dX3_bond_35 : decode cX3_bond 35 = .ok (.imul, 1) := by decide +kernel
theorem dX3_bond_36 : decode cX3_bond 36 = .ok (.istore 6, 2) := by decide +kernel
theorem dX3_bond_38 : decode cX3_bond 38 = .ok (.aload_n 0, 1) := by decide +kernel
theorem dX3_bond_39 : decode cX3_bond 39 = .ok (.getfield 7, 3) := by decide +kernel
theorem dX3_bond_42 : decode cX3_bond 42 = .ok (.iload 6, 2) := by decide +kernel
theorem dX3_bond_44 : decode cX3_bond 44 = .ok (.iconst 0, 1) := by decide +kernel
theorem dX3_bond_45 : decode cX3_bond 45 = .ok (.iadd, 1) := by decide +kernel
theorem dX3_bond_46 : decode cX3_bond 46 = .ok (.iload_n 1, 1) := by decide +kernel
theorem dX3_bond_47 : decode cX3_bond 47 = .ok (.iastore, 1) := by decide +kernel
theorem dX3_bond_48 : decode cX3_bond 48 = .ok (.aload_n 0, 1) := by decide +kernel
theorem dX3_bond_49 : decode cX3_bond 49 = .ok (.getfield 7, 3) := by decide +kernel
theorem dX3_bond_52 : decode cX3_bond 52 = .ok (.iload 6, 2) := by decide +kernel
theorem dX3_bond_54 : decode cX3_bond 54 = .ok (.iconst 1, 1) := by decide +kernel
theorem dX3_bond_55 : decode cX3_bond 55 = .ok (.iadd, 1) := by decide +kernel
theorem dX3_bond_56 : decode cX3_bond 56 = .ok (.iload_n 2, 1) := by decide +kernel
theorem dX3_bond_57 : decode cX3_bond 57 = .ok (.iastore, 1) := by decide +kernel
theorem dX3_bond_58 : decode cX3_bond 58 = .ok (.aload_n 0, 1) := by decide +kernel
theorem dX3_bond_59 : decode cX3_bond 59 = .ok (.getfield 7, 3) := by decide +kernel
theorem dX3_bond_62 : decode cX3_bond 62 = .ok (.iload 6, 2) := by decide +kernel
theorem dX3_bond_64 : decode cX3_bond 64 = .ok (.iconst 2, 1) := by decide +kernel
theorem dX3_bond_65 : decode cX3_bond 65 = .ok (.iadd, 1) := by decide +kernel
theorem dX3_bond_66 : decode cX3_bond 66 = .ok (.iload_n 3, 1) := by decide +kernel
theorem dX3_bond_67 : decode cX3_bond 67 = .ok (.iastore, 1) := by decide +kernel
theorem dX3_bond_68 : decode cX3_bond 68 = .ok (.aload_n 0, 1) := by decide +kernel
theorem dX3_bond_69 : decode cX3_bond 69 = .ok (.getfield 7, 3) := by decide +kernel
theorem dX3_bond_72 : decode cX3_bond 72 = .ok (.iload 6, 2) := by decide +kernel
theorem dX3_bond_74 : decode cX3_bond 74 = .ok (.iconst 3, 1) := by decide +kernel
theorem dX3_bond_75 : decode cX3_bond 75 = .ok (.iadd, 1) := by decide +kernel
theorem dX3_bond_76 : decode cX3_bond 76 = .ok (.iload 4, 2) := by decide +kernel
theorem dX3_bond_78 : decode cX3_bond 78 = .ok (.iastore, 1) := by decide +kernel
theorem dX3_bond_79 : decode cX3_bond 79 = .ok (.aload_n 0, 1) := by decide +kernel
theorem dX3_bond_80 : decode cX3_bond 80 = .ok (.getfield 7, 3) := by decide +kernel
theorem dX3_bond_83 : decode cX3_bond 83 = .ok (.iload 6, 2) := by decide +kernel
theorem dX3_bond_85 : decode cX3_bond 85 = .ok (.iconst 4, 1) := by decide +kernel
theorem dX3_bond_86 : decode cX3_bond 86 = .ok (.iadd, 1) := by decide +kernel
theorem dX3_bond_87 : decode cX3_bond 87 = .ok (.iload 5, 2) := by decide +kernel
theorem dX3_bond_89 : decode cX3_bond 89 = .ok (.iastore, 1) := by decide +kernel
theorem dX3_bond_90 : decode cX3_bond 90 = .ok (.aload_n 0, 1) := by decide +kernel
theorem dX3_bond_91 : decode cX3_bond 91 = .ok (.getfield 7, 3) := by decide +kernel
theorem dX3_bond_94 : decode cX3_bond 94 = .ok (.iload 6, 2) := by decide +kernel
theorem dX3_bond_96 : decode cX3_bond 96 = .ok (.iconst 5, 1) := by decide +kernel
theorem dX3_bond_97 : decode cX3_bond 97 = .ok (.iadd, 1) := by decide +kernel
theorem dX3_bond_98 : decode cX3_bond 98 = .ok (.iconst 0, 1) := by decide +kernel
theorem dX3_bond_99 : decode cX3_bond 99 = .ok (.iastore, 1) := by decide +kernel
theorem dX3_bond_100 : decode cX3_bond 100 = .ok (.aload_n 0, 1) := by decide +kernel
theorem dX3_bond_101 : decode cX3_bond 101 = .ok (.getfield 7, 3) := by decide +kernel
theorem dX3_bond_104 : decode cX3_bond 104 = .ok (.iload 6, 2) := by decide +kernel
theorem dX3_bond_106 : decode cX3_bond 106 = .ok (.bipush 6, 2) := by decide +kernel
theorem dX3_bond_108 : decode cX3_bond 108 = .ok (.iadd, 1) := by decide +kernel
theorem dX3_bond_109 : decode cX3_bond 109 = .ok (.iconst 0, 1) := by decide +kernel
theorem dX3_bond_110 : decode cX3_bond 110 = .ok (.iastore, 1) := by decide +kernel
theorem dX3_bond_111 : decode cX3_bond 111 = .ok (.aload_n 0, 1) := by decide +kernel
theorem dX3_bond_112 : decode cX3_bond 112 = .ok (.dup, 1) := by decide +kernel
theorem dX3_bond_113 : decode cX3_bond 113 = .ok (.getfield 64, 3) := by decide +kernel
theorem dX3_bond_116 : decode cX3_bond 116 = .ok (.iconst 1, 1) := by decide +kernel
theorem dX3_bond_117 : decode cX3_bond 117 = .ok (.iadd, 1) := by decide +kernel
theorem dX3_bond_118 : decode cX3_bond 118 = .ok (.putfield 64, 3) := by decide +kernel
theorem dX3_bond_121 : decode cX3_bond 121 = .ok (.aload_n 0, 1) := by decide +kernel
theorem dX3_bond_122 : decode cX3_bond 122 = .ok (.getfield 64, 3) := by decide +kernel
theorem dX3_bond_125 : decode cX3_bond 125 = .ok (.iconst 1, 1) := by decide +kernel
theorem dX3_bond_126 : decode cX3_bond 126 = .ok (.isub, 1) := by decide +kernel
theorem dX3_bond_127 : decode cX3_bond 127 = .ok (.ireturn, 1) := by decide +kernel
set_option maxRecDepth 20000 in
theorem ggX3_drop_X3_isBond : GoodIn wsX3_drop wsX3_isBond := goodIn_r _ [8, 2, 9, 10, 7, 11, 12, 13, 14, 15, 16, 17, 18, 19, 20, 21, 22, 23, 24, 25, 26, 27, 28, 29, 30, 31] (by decide +kernel) (by decide +kernel)
set_option maxRecDepth 20000 in
theorem gX3_drop_X3_isBond : GoodIn wsX3_drop (wsV RX3 87 RX3 yX3_isBond wsX3_isBond) := goodIn_app (goodIn_of _ (by decide +kernel)) ggX3_drop_X3_isBond
theorem dX3_drop_0 : decode cX3_drop 0 = .ok (.aload_n 0, 1) := by decide +kernel
theorem dX3_drop_1 : decode cX3_drop 1 = .ok (.iconst 0, 1) := by decide +kernel
theorem dX3_drop_2 : decode cX3_drop 2 = .ok (.putfield 61, 3) := by decide +kernel
theorem dX3_drop_5 : decode cX3_drop 5 = .ok (.aload_n 0, 1) := by decide +kernel
theorem dX3_drop_6 : decode cX3_drop 6 = .ok (.iload_n 1, 1) := by decide +kernel
theorem dX3_drop_7 : decode cX3_drop 7 = .ok (.invokevirtual 87, 3) := by decide +kernel
theorem dX3_drop_10 : decode cX3_drop 10 = .ok (.ifCond .ne 5, 3) := by decide +kernel
theorem dX3_drop_13 : decode cX3_drop 13 = .ok (.iconst (-1), 1) := by decide +kernel
theorem dX3_drop_14 : decode cX3_drop 14 = .ok (.ireturn, 1) := by decide +kernel
theorem dX3_drop_15 : decode cX3_drop 15 = .ok (.aload_n 0, 1) := by decide +kernel
theorem dX3_drop_16 : decode cX3_drop 16 = .ok (.dup, 1) := by decide +kernel
theorem dX3_drop_17 : decode cX3_drop 17 = .ok (.getfield 64, 3) := by decide +kernel
theorem dX3_drop_20 : decode cX3_drop 20 = .ok (.iconst 1, 1) := by decide +kernel
theorem dX3_drop_21 : decode cX3_drop 21 = .ok (.isub, 1) := by decide +kernel
theorem dX3_drop_22 : decode cX3_drop 22 = .ok (.putfield 64, 3) := by decide +kernel
theorem dX3_drop_25 : decode cX3_drop 25 = .ok (.bipush 7, 2) := by decide +kernel
theorem dX3_drop_27 : decode cX3_drop 27 = .ok (.iload_n 1, 1) := by decide +kernel
theorem dX3_drop_28 : decode cX3_drop 28 = .ok (.imul, 1) := by decide +kernel
theorem dX3_drop_29 : decode cX3_drop 29 = .ok (.istore_n 2, 1) := by decide +kernel
theorem dX3_drop_30 : decode cX3_drop 30 = .ok (.iload_n 2, 1) := by decide +kernel
theorem dX3_drop_31 : decode cX3_drop 31 = .ok (.bipush 7, 2) := by decide +kernel
theorem dX3_drop_33 : decode cX3_drop 33 = .ok (.aload_n 0, 1) := by decide +kernel
theorem dX3_drop_34 : decode cX3_drop 34 = .ok (.getfield 64, 3) := by decide +kernel
theorem dX3_drop_37 : decode cX3_drop 37 = .ok (.imul, 1) := by decide +kernel
theorem dX3_drop_38 : decode cX3_drop 38 = .ok (.if_icmp .ge 24, 3) := by decide +kernel
theorem dX3_drop_41 : decode cX3_drop 41 = .ok (.aload_n 0, 1) := by decide +kernel
theorem dX3_drop_42 : decode cX3_drop 42 = .ok (.getfield 7, 3) := by decide +kernel
theorem dX3_drop_45 : decode cX3_drop 45 = .ok (.iload_n 2, 1) := by decide +kernel
theorem dX3_drop_46 : decode cX3_drop 46 = .ok (.aload_n 0, 1) := by decide +kernel
theorem dX3_drop_47 : decode cX3_drop 47 = .ok (.getfield 7, 3) := by decide +kernel
theorem dX3_drop_50 : decode cX3_drop 50 = .ok (.iload_n 2, 1) := by decide +kernel
theorem dX3_drop_51 : decode cX3_drop 51 = .ok (.bipush 7, 2) := by decide +kernel
theorem dX3_drop_53 : decode cX3_drop 53 = .ok (.iadd, 1) := by decide +kernel
theorem dX3_drop_54 : decode cX3_drop 54 = .ok (.iaload, 1) := by decide +kernel
theorem dX3_drop_55 : decode cX3_drop 55 = .ok (.iastore, 1) := by decide +kernel
theorem dX3_drop_56 : decode cX3_drop 56 = .ok (.iinc 2 1, 3) := by decide +kernel
theorem dX3_drop_59 : decode cX3_drop 59 = .ok (.goto (-29), 3) := by decide +kernel
theorem dX3_drop_62 : decode cX3_drop 62 = .ok (.aload_n 0, 1) := by decide +kernel
theorem dX3_drop_63 : decode cX3_drop 63 = .ok (.getfield 64, 3) := by decide +kernel
theorem dX3_drop_66 : decode cX3_drop 66 = .ok (.ireturn, 1) := by decide +kernel
set_option maxRecDepth 20000 in
theorem ggX3_alter_X3_isBond : GoodIn wsX3_alter wsX3_isBond := goodIn_r _ [11, 12, 13, 14, 10, 15, 20, 21, 22, 23, 24, 25, 26, 27, 28, 29, 30, 31, 32, 33, 34, 35, 36, 37, 38, 39] (by decide +kernel) (by decide +kernel)
set_option maxRecDepth 20000 in
theorem gX3_alter_X3_isBond : GoodIn wsX3_alter (wsV RX3 87 RX3 yX3_isBond wsX3_isBond) := goodIn_app (goodIn_of _ (by decide +kernel)) ggX3_alter_X3_isBond
set_option maxRecDepth 20000 in
theorem ggX3_alter_X3_isIn : GoodIn wsX3_alter wsX3_isIn := goodIn_r _ [15] (by decide +kernel) (by decide +kernel)
set_option maxRecDepth 20000 in
theorem gX3_alter_X3_isIn : GoodIn wsX3_alter (va_wsS RX3 67 yX3_isIn wsX3_isIn) := goodIn_app (goodIn_of _ (by decide +kernel)) ggX3_alter_X3_isIn
set_option maxRecDepth 20000 in
theorem ggX3_alter_X3_of1 : GoodIn wsX3_alter wsX3_of1 := goodIn_r _ [19, 6, 20, 21, 22, 23, 24, 25, 26, 27, 28, 29, 30, 31, 32, 33, 34, 35, 36, 37, 38, 39] (by decide +kernel) (by decide +kernel)
set_option maxRecDepth 20000 in
theorem gX3_alter_X3_of1 : GoodIn wsX3_alter (wsV RX3 95 RX3 yX3_of1 wsX3_of1) := goodIn_app (goodIn_of _ (by decide +kernel)) ggX3_alter_X3_of1
theorem dX3_alter_0 : decode cX3_alter 0 = .ok (.aload_n 0, 1) := by decide +kernel
theorem dX3_alter_1 : decode cX3_alter 1 = .ok (.iconst 0, 1) := by decide +kernel
theorem dX3_alter_2 : decode cX3_alter 2 = .ok (.putfield 61, 3) := by decide +kernel
theorem dX3_alter_5 : decode cX3_alter 5 = .ok (.aload_n 0, 1) := by decide +kernel
theorem dX3_alter_6 : decode cX3_alter 6 = .ok (.iload_n 1, 1) := by decide +kernel
theorem dX3_alter_7 : decode cX3_alter 7 = .ok (.invokevirtual 87, 3) := by decide +kernel
theorem dX3_alter_10 : decode cX3_alter 10 = .ok (.ifCond .eq 15, 3) := by decide +kernel
theorem dX3_alter_13 : decode cX3_alter 13 = .ok (.iload_n 2, 1) := by decide +kernel
theorem dX3_alter_14 : decode cX3_alter 14 = .ok (.i2l, 1) := by decide +kernel
theorem dX3_alter_15 : decode cX3_alter 15 = .ok (.lconst 0, 1) := by decide +kernel
theorem dX3_alter_16 : decode cX3_alter 16 = .ok (.ldc2_w 91, 3) := by decide +kernel
theorem dX3_alter_19 : decode cX3_alter 19 = .ok (.invokestatic 67, 3) := by decide +kernel
theorem dX3_alter_22 : decode cX3_alter 22 = .ok (.ifCond .ne 5, 3) := by decide +kernel
theorem dX3_alter_25 : decode cX3_alter 25 = .ok (.iconst 0, 1) := by decide +kernel
theorem dX3_alter_26 : decode cX3_alter 26 = .ok (.ireturn, 1) := by decide +kernel
theorem dX3_alter_27 : decode cX3_alter 27 = .ok (.iload_n 2, 1) := by decide +kernel
theorem dX3_alter_28 : decode cX3_alter 28 = .ok (.ifCond .ne 17, 3) := by decide +kernel
theorem dX3_alter_31 : decode cX3_alter 31 = .ok (.iload_n 3, 1) := by decide +kernel
theorem dX3_alter_32 : decode cX3_alter 32 = .ok (.i2l, 1) := by decide +kernel
theorem dX3_alter_33 : decode cX3_alter 33 = .ok (.ldc2_w 77, 3) := by decide +kernel
theorem dX3_alter_36 : decode cX3_alter 36 = .ok (.ldc2_w 79, 3) := by decide +kernel
theorem dX3_alter_39 : decode cX3_alter 39 = .ok (.invokestatic 67, 3) := by decide +kernel
theorem dX3_alter_42 : decode cX3_alter 42 = .ok (.goto 27, 3) := by decide +kernel
theorem dX3_alter_45 : decode cX3_alter 45 = .ok (.iload_n 2, 1) := by decide +kernel
theorem dX3_alter_46 : decode cX3_alter 46 = .ok (.iconst 1, 1) := by decide +kernel
theorem dX3_alter_47 : decode cX3_alter 47 = .ok (.if_icmp .ne 15, 3) := by decide +kernel
theorem dX3_alter_50 : decode cX3_alter 50 = .ok (.iload_n 3, 1) := by decide +kernel
theorem dX3_alter_51 : decode cX3_alter 51 = .ok (.i2l, 1) := by decide +kernel
theorem dX3_alter_52 : decode cX3_alter 52 = .ok (.lconst 0, 1) := by decide +kernel
theorem dX3_alter_53 : decode cX3_alter 53 = .ok (.ldc2_w 93, 3) := by decide +kernel
theorem dX3_alter_56 : decode cX3_alter 56 = .ok (.invokestatic 67, 3) := by decide +kernel
theorem dX3_alter_59 : decode cX3_alter 59 = .ok (.goto 10, 3) := by decide +kernel
theorem dX3_alter_62 : decode cX3_alter 62 = .ok (.iload_n 3, 1) := by decide +kernel
theorem dX3_alter_63 : decode cX3_alter 63 = .ok (.i2l, 1) := by decide +kernel
theorem dX3_alter_64 : decode cX3_alter 64 = .ok (.lconst 0, 1) := by decide +kernel
theorem dX3_alter_65 : decode cX3_alter 65 = .ok (.lconst 1, 1) := by decide +kernel
theorem dX3_alter_66 : decode cX3_alter 66 = .ok (.invokestatic 67, 3) := by decide +kernel
theorem dX3_alter_69 : decode cX3_alter 69 = .ok (.istore 4, 2) := by decide +kernel
theorem dX3_alter_71 : decode cX3_alter 71 = .ok (.iload 4, 2) := by decide +kernel
theorem dX3_alter_73 : decode cX3_alter 73 = .ok (.ifCond .eq 15, 3) := by decide +kernel
theorem dX3_alter_76 : decode cX3_alter 76 = .ok (.aload_n 0, 1) := by decide +kernel
theorem dX3_alter_77 : decode cX3_alter 77 = .ok (.iload_n 1, 1) := by decide +kernel
theorem dX3_alter_78 : decode cX3_alter 78 = .ok (.iconst 4, 1) := by decide +kernel
theorem dX3_alter_79 : decode cX3_alter 79 = .ok (.iload_n 2, 1) := by decide +kernel
theorem dX3_alter_80 : decode cX3_alter 80 = .ok (.iadd, 1) := by decide +kernel
theorem dX3_alter_81 : decode cX3_alter 81 = .ok (.invokevirtual 95, 3) := by decide +kernel
theorem dX3_alter_84 : decode cX3_alter 84 = .ok (.iload_n 3, 1) := by decide +kernel
theorem dX3_alter_85 : decode cX3_alter 85 = .ok (.if_icmp .ne 5, 3) := by decide +kernel
theorem dX3_alter_88 : decode cX3_alter 88 = .ok (.iconst 0, 1) := by decide +kernel
theorem dX3_alter_89 : decode cX3_alter 89 = .ok (.ireturn, 1) := by decide +kernel
theorem dX3_alter_90 : decode cX3_alter 90 = .ok (.aload_n 0, 1) := by decide +kernel
theorem dX3_alter_91 : decode cX3_alter 91 = .ok (.getfield 7, 3) := by decide +kernel
theorem dX3_alter_94 : decode cX3_alter 94 = .ok (.bipush 7, 2) := by decide +kernel
theorem dX3_alter_96 : decode cX3_alter 96 = .ok (.iload_n 1, 1) := by decide +kernel
theorem dX3_alter_97 : decode cX3_alter 97 = .ok (.imul, 1) := by decide +kernel
theorem dX3_alter_98 : decode cX3_alter 98 = .ok (.iconst 4, 1) := by decide +kernel
theorem dX3_alter_99 : decode cX3_alter 99 = .ok (.iadd, 1) := by decide +kernel
theorem dX3_alter_100 : decode cX3_alter 100 = .ok (.iload_n 2, 1) := by decide +kernel
theorem dX3_alter_101 : decode cX3_alter 101 = .ok (.iadd, 1) := by decide +kernel
theorem dX3_alter_102 : decode cX3_alter 102 = .ok (.iload_n 3, 1) := by decide +kernel
theorem dX3_alter_103 : decode cX3_alter 103 = .ok (.iastore, 1) := by decide +kernel
theorem dX3_alter_104 : decode cX3_alter 104 = .ok (.iconst 1, 1) := by decide +kernel
theorem dX3_alter_105 : decode cX3_alter 105 = .ok (.ireturn, 1) := by decide +kernel
set_option maxRecDepth 20000 in
theorem ggX3_owed_X3_of1 : GoodIn wsX3_owed wsX3_of1 := goodIn_r _ [6, 7, 8, 9, 10, 11, 12, 13, 14, 15, 16, 17, 18, 19, 20, 21, 22, 23, 24, 25, 26, 27] (by decide +kernel) (by decide +kernel)
set_option maxRecDepth 20000 in
theorem gX3_owed_X3_of1 : GoodIn wsX3_owed (wsV RX3 95 RX3 yX3_of1 wsX3_of1) := goodIn_app (goodIn_of _ (by decide +kernel)) ggX3_owed_X3_of1
theorem dX3_owed_0 : decode cX3_owed 0 = .ok (.aload_n 0, 1) := by decide +kernel
theorem dX3_owed_1 : decode cX3_owed 1 = .ok (.iload_n 1, 1) := by decide +kernel
theorem dX3_owed_2 : decode cX3_owed 2 = .ok (.iconst 0, 1) := by decide +kernel
theorem dX3_owed_3 : decode cX3_owed 3 = .ok (.invokevirtual 95, 3) := by decide +kernel
theorem dX3_owed_6 : decode cX3_owed 6 = .ok (.iconst 2, 1) := by decide +kernel
theorem dX3_owed_7 : decode cX3_owed 7 = .ok (.if_icmp .eq 7, 3) := by decide +kernel
theorem dX3_owed_10 : decode cX3_owed 10 = .ok (.ldc2_w 99, 3) := by decide +kernel
theorem dX3_owed_13 : decode cX3_owed 13 = .ok (.lreturn, 1) := by decide +kernel
theorem dX3_owed_14 : decode cX3_owed 14 = .ok (.iload_n 2, 1) := by decide +kernel
theorem dX3_owed_15 : decode cX3_owed 15 = .ok (.iconst 1, 1) := by decide +kernel
theorem dX3_owed_16 : decode cX3_owed 16 = .ok (.isub, 1) := by decide +kernel
theorem dX3_owed_17 : decode cX3_owed 17 = .ok (.aload_n 0, 1) := by decide +kernel
theorem dX3_owed_18 : decode cX3_owed 18 = .ok (.iload_n 1, 1) := by decide +kernel
theorem dX3_owed_19 : decode cX3_owed 19 = .ok (.iconst 2, 1) := by decide +kernel
theorem dX3_owed_20 : decode cX3_owed 20 = .ok (.invokevirtual 95, 3) := by decide +kernel
theorem dX3_owed_23 : decode cX3_owed 23 = .ok (.aload_n 0, 1) := by decide +kernel
theorem dX3_owed_24 : decode cX3_owed 24 = .ok (.iload_n 1, 1) := by decide +kernel
theorem dX3_owed_25 : decode cX3_owed 25 = .ok (.iconst 3, 1) := by decide +kernel
theorem dX3_owed_26 : decode cX3_owed 26 = .ok (.invokevirtual 95, 3) := by decide +kernel
theorem dX3_owed_29 : decode cX3_owed 29 = .ok (.isub, 1) := by decide +kernel
theorem dX3_owed_30 : decode cX3_owed 30 = .ok (.isub, 1) := by decide +kernel
theorem dX3_owed_31 : decode cX3_owed 31 = .ok (.istore_n 3, 1) := by decide +kernel
theorem dX3_owed_32 : decode cX3_owed 32 = .ok (.iload_n 3, 1) := by decide +kernel
theorem dX3_owed_33 : decode cX3_owed 33 = .ok (.ifCond .gt 9, 3) := by decide +kernel
theorem dX3_owed_36 : decode cX3_owed 36 = .ok (.ldc2_w 99, 3) := by decide +kernel
theorem dX3_owed_39 : decode cX3_owed 39 = .ok (.goto 21, 3) := by decide +kernel
theorem dX3_owed_42 : decode cX3_owed 42 = .ok (.ldc2_w 99, 3) := by decide +kernel
theorem dX3_owed_45 : decode cX3_owed 45 = .ok (.iload_n 3, 1) := by decide +kernel
theorem dX3_owed_46 : decode cX3_owed 46 = .ok (.i2l, 1) := by decide +kernel
theorem dX3_owed_47 : decode cX3_owed 47 = .ok (.ldc2_w 99, 3) := by decide +kernel
theorem dX3_owed_50 : decode cX3_owed 50 = .ok (.aload_n 0, 1) := by decide +kernel
theorem dX3_owed_51 : decode cX3_owed 51 = .ok (.iload_n 1, 1) := by decide +kernel
theorem dX3_owed_52 : decode cX3_owed 52 = .ok (.iconst 3, 1) := by decide +kernel
theorem dX3_owed_53 : decode cX3_owed 53 = .ok (.invokevirtual 95, 3) := by decide +kernel
theorem dX3_owed_56 : decode cX3_owed 56 = .ok (.i2l, 1) := by decide +kernel
theorem dX3_owed_57 : decode cX3_owed 57 = .ok (.ldiv, 1) := by decide +kernel
theorem dX3_owed_58 : decode cX3_owed 58 = .ok (.lmul, 1) := by decide +kernel
theorem dX3_owed_59 : decode cX3_owed 59 = .ok (.lsub, 1) := by decide +kernel
theorem dX3_owed_60 : decode cX3_owed 60 = .ok (.lreturn, 1) := by decide +kernel
set_option maxRecDepth 20000 in
theorem ggX3_back_X3_of1 : GoodIn wsX3_back wsX3_of1 := goodIn_r _ [6, 7, 12, 13, 14, 15, 16, 17, 18, 19, 20, 21, 22, 23, 24, 25, 26, 27, 28, 29, 30, 31] (by decide +kernel) (by decide +kernel)
set_option maxRecDepth 20000 in
theorem gX3_back_X3_of1 : GoodIn wsX3_back (wsV RX3 95 RX3 yX3_of1 wsX3_of1) := goodIn_app (goodIn_of _ (by decide +kernel)) ggX3_back_X3_of1
set_option maxRecDepth 20000 in
theorem ggX3_back_X3_owed : GoodIn wsX3_back wsX3_owed := goodIn_r _ [11, 1, 2, 3, 4, 5, 6, 7, 12, 13, 14, 15, 16, 17, 18, 19, 20, 21, 22, 23, 24, 25, 26, 27, 28, 29, 30, 31] (by decide +kernel) (by decide +kernel)
set_option maxRecDepth 20000 in
theorem gX3_back_X3_owed : GoodIn wsX3_back (wsV RX3 101 RX3 yX3_owed wsX3_owed) := goodIn_app (goodIn_of _ (by decide +kernel)) ggX3_back_X3_owed
theorem dX3_back_0 : decode cX3_back 0 = .ok (.iload_n 2, 1) := by decide +kernel
theorem dX3_back_1 : decode cX3_back 1 = .ok (.aload_n 0, 1) := by decide +kernel
theorem dX3_back_2 : decode cX3_back 2 = .ok (.iload_n 1, 1) := by decide +kernel
theorem dX3_back_3 : decode cX3_back 3 = .ok (.iconst 2, 1) := by decide +kernel
theorem dX3_back_4 : decode cX3_back 4 = .ok (.invokevirtual 95, 3) := by decide +kernel
theorem dX3_back_7 : decode cX3_back 7 = .ok (.if_icmp .ne 10, 3) := by decide +kernel
theorem dX3_back_10 : decode cX3_back 10 = .ok (.aload_n 0, 1) := by decide +kernel
theorem dX3_back_11 : decode cX3_back 11 = .ok (.iload_n 1, 1) := by decide +kernel
theorem dX3_back_12 : decode cX3_back 12 = .ok (.iload_n 2, 1) := by decide +kernel
theorem dX3_back_13 : decode cX3_back 13 = .ok (.invokevirtual 101, 3) := by decide +kernel
theorem dX3_back_16 : decode cX3_back 16 = .ok (.lreturn, 1) := by decide +kernel
theorem dX3_back_17 : decode cX3_back 17 = .ok (.aload_n 0, 1) := by decide +kernel
theorem dX3_back_18 : decode cX3_back 18 = .ok (.iload_n 1, 1) := by decide +kernel
theorem dX3_back_19 : decode cX3_back 19 = .ok (.iconst 0, 1) := by decide +kernel
theorem dX3_back_20 : decode cX3_back 20 = .ok (.invokevirtual 95, 3) := by decide +kernel
theorem dX3_back_23 : decode cX3_back 23 = .ok (.iconst 2, 1) := by decide +kernel
theorem dX3_back_24 : decode cX3_back 24 = .ok (.if_icmp .ne 34, 3) := by decide +kernel
theorem dX3_back_27 : decode cX3_back 27 = .ok (.iload_n 2, 1) := by decide +kernel
theorem dX3_back_28 : decode cX3_back 28 = .ok (.aload_n 0, 1) := by decide +kernel
theorem dX3_back_29 : decode cX3_back 29 = .ok (.iload_n 1, 1) := by decide +kernel
theorem dX3_back_30 : decode cX3_back 30 = .ok (.iconst 2, 1) := by decide +kernel
theorem dX3_back_31 : decode cX3_back 31 = .ok (.invokevirtual 95, 3) := by decide +kernel
theorem dX3_back_34 : decode cX3_back 34 = .ok (.aload_n 0, 1) := by decide +kernel
theorem dX3_back_35 : decode cX3_back 35 = .ok (.iload_n 1, 1) := by decide +kernel
theorem dX3_back_36 : decode cX3_back 36 = .ok (.iconst 3, 1) := by decide +kernel
theorem dX3_back_37 : decode cX3_back 37 = .ok (.invokevirtual 95, 3) := by decide +kernel
theorem dX3_back_40 : decode cX3_back 40 = .ok (.isub, 1) := by decide +kernel
theorem dX3_back_41 : decode cX3_back 41 = .ok (.if_icmp .le 17, 3) := by decide +kernel
theorem dX3_back_44 : decode cX3_back 44 = .ok (.ldc2_w 99, 3) := by decide +kernel
theorem dX3_back_47 : decode cX3_back 47 = .ok (.aload_n 0, 1) := by decide +kernel
theorem dX3_back_48 : decode cX3_back 48 = .ok (.iload_n 1, 1) := by decide +kernel
theorem dX3_back_49 : decode cX3_back 49 = .ok (.iconst 3, 1) := by decide +kernel
theorem dX3_back_50 : decode cX3_back 50 = .ok (.invokevirtual 95, 3) := by decide +kernel
theorem dX3_back_53 : decode cX3_back 53 = .ok (.i2l, 1) := by decide +kernel
theorem dX3_back_54 : decode cX3_back 54 = .ok (.ldiv, 1) := by decide +kernel
theorem dX3_back_55 : decode cX3_back 55 = .ok (.goto 4, 3) := by decide +kernel
theorem dX3_back_58 : decode cX3_back 58 = .ok (.lconst 0, 1) := by decide +kernel
theorem dX3_back_59 : decode cX3_back 59 = .ok (.lreturn, 1) := by decide +kernel
set_option maxRecDepth 20000 in
theorem ggX3_flow1_X3_of1 : GoodIn wsX3_flow1 wsX3_of1 := goodIn_r _ [6, 7, 17, 18, 19, 20, 21, 22, 23, 24, 25, 26, 27, 28, 29, 30, 31, 32, 33, 34, 35, 36] (by decide +kernel) (by decide +kernel)
set_option maxRecDepth 20000 in
theorem gX3_flow1_X3_of1 : GoodIn wsX3_flow1 (wsV RX3 95 RX3 yX3_of1 wsX3_of1) := goodIn_app (goodIn_of _ (by decide +kernel)) ggX3_flow1_X3_of1
set_option maxRecDepth 20000 in
theorem ggX3_flow1_X3_owed : GoodIn wsX3_flow1 wsX3_owed := goodIn_r _ [11, 12, 2, 3, 4, 5, 6, 7, 17, 18, 19, 20, 21, 22, 23, 24, 25, 26, 27, 28, 29, 30, 31, 32, 33, 34, 35, 36] (by decide +kernel) (by decide +kernel)
set_option maxRecDepth 20000 in
theorem gX3_flow1_X3_owed : GoodIn wsX3_flow1 (wsV RX3 101 RX3 yX3_owed wsX3_owed) := goodIn_app (goodIn_of _ (by decide +kernel)) ggX3_flow1_X3_owed
set_option maxRecDepth 20000 in
theorem ggX3_flow1_X3_back : GoodIn wsX3_flow1 wsX3_back := goodIn_r _ [16, 12, 2, 3, 4, 5, 6, 7, 8, 9, 10, 11, 17, 18, 19, 20, 21, 22, 23, 24, 25, 26, 27, 28, 29, 30, 31, 32, 33, 34, 35, 36] (by decide +kernel) (by decide +kernel)
set_option maxRecDepth 20000 in
theorem gX3_flow1_X3_back : GoodIn wsX3_flow1 (wsV RX3 107 RX3 yX3_back wsX3_back) := goodIn_app (goodIn_of _ (by decide +kernel)) ggX3_flow1_X3_back
theorem dX3_flow1_0 : decode cX3_flow1 0 = .ok (.aload_n 0, 1) := by decide +kernel
theorem dX3_flow1_1 : decode cX3_flow1 1 = .ok (.iload_n 1, 1) := by decide +kernel
theorem dX3_flow1_2 : decode cX3_flow1 2 = .ok (.iconst 1, 1) := by decide +kernel
theorem dX3_flow1_3 : decode cX3_flow1 3 = .ok (.invokevirtual 95, 3) := by decide +kernel
theorem dX3_flow1_6 : decode cX3_flow1 6 = .ok (.aload_n 0, 1) := by decide +kernel
theorem dX3_flow1_7 : decode cX3_flow1 7 = .ok (.iload_n 1, 1) := by decide +kernel
theorem dX3_flow1_8 : decode cX3_flow1 8 = .ok (.iconst 0, 1) := by decide +kernel
theorem dX3_flow1_9 : decode cX3_flow1 9 = .ok (.invokevirtual 95, 3) := by decide +kernel
theorem dX3_flow1_12 : decode cX3_flow1 12 = .ok (.iconst 1, 1) := by decide +kernel
theorem dX3_flow1_13 : decode cX3_flow1 13 = .ok (.if_icmp .ne 16, 3) := by decide +kernel
theorem dX3_flow1_16 : decode cX3_flow1 16 = .ok (.iload_n 2, 1) := by decide +kernel
theorem dX3_flow1_17 : decode cX3_flow1 17 = .ok (.iconst 1, 1) := by decide +kernel
theorem dX3_flow1_18 : decode cX3_flow1 18 = .ok (.isub, 1) := by decide +kernel
theorem dX3_flow1_19 : decode cX3_flow1 19 = .ok (.aload_n 0, 1) := by decide +kernel
theorem dX3_flow1_20 : decode cX3_flow1 20 = .ok (.iload_n 1, 1) := by decide +kernel
theorem dX3_flow1_21 : decode cX3_flow1 21 = .ok (.iconst 3, 1) := by decide +kernel
theorem dX3_flow1_22 : decode cX3_flow1 22 = .ok (.invokevirtual 95, 3) := by decide +kernel
theorem dX3_flow1_25 : decode cX3_flow1 25 = .ok (.imul, 1) := by decide +kernel
theorem dX3_flow1_26 : decode cX3_flow1 26 = .ok (.goto 4, 3) := by decide +kernel
theorem dX3_flow1_29 : decode cX3_flow1 29 = .ok (.iconst 0, 1) := by decide +kernel
theorem dX3_flow1_30 : decode cX3_flow1 30 = .ok (.iadd, 1) := by decide +kernel
theorem dX3_flow1_31 : decode cX3_flow1 31 = .ok (.i2l, 1) := by decide +kernel
theorem dX3_flow1_32 : decode cX3_flow1 32 = .ok (.lstore_n 3, 1) := by decide +kernel
theorem dX3_flow1_33 : decode cX3_flow1 33 = .ok (.lload_n 3, 1) := by decide +kernel
theorem dX3_flow1_34 : decode cX3_flow1 34 = .ok (.aload_n 0, 1) := by decide +kernel
theorem dX3_flow1_35 : decode cX3_flow1 35 = .ok (.iload_n 1, 1) := by decide +kernel
theorem dX3_flow1_36 : decode cX3_flow1 36 = .ok (.iload_n 2, 1) := by decide +kernel
theorem dX3_flow1_37 : decode cX3_flow1 37 = .ok (.invokevirtual 101, 3) := by decide +kernel
theorem dX3_flow1_40 : decode cX3_flow1 40 = .ok (.lmul, 1) := by decide +kernel
theorem dX3_flow1_41 : decode cX3_flow1 41 = .ok (.ldc2_w 105, 3) := by decide +kernel
theorem dX3_flow1_44 : decode cX3_flow1 44 = .ok (.ldiv, 1) := by decide +kernel
theorem dX3_flow1_45 : decode cX3_flow1 45 = .ok (.aload_n 0, 1) := by decide +kernel
theorem dX3_flow1_46 : decode cX3_flow1 46 = .ok (.iload_n 1, 1) := by decide +kernel
theorem dX3_flow1_47 : decode cX3_flow1 47 = .ok (.iload_n 2, 1) := by decide +kernel
theorem dX3_flow1_48 : decode cX3_flow1 48 = .ok (.invokevirtual 107, 3) := by decide +kernel
theorem dX3_flow1_51 : decode cX3_flow1 51 = .ok (.ladd, 1) := by decide +kernel
theorem dX3_flow1_52 : decode cX3_flow1 52 = .ok (.lreturn, 1) := by decide +kernel
set_option maxRecDepth 20000 in
theorem ggX3_worth_X3_of1 : GoodIn wsX3_worth wsX3_of1 := goodIn_r _ [6, 7, 21, 22, 23, 24, 25, 26, 27, 28, 29, 30, 31, 32, 33, 34, 35, 36, 37, 38, 39, 40] (by decide +kernel) (by decide +kernel)
set_option maxRecDepth 20000 in
theorem gX3_worth_X3_of1 : GoodIn wsX3_worth (wsV RX3 95 RX3 yX3_of1 wsX3_of1) := goodIn_app (goodIn_of _ (by decide +kernel)) ggX3_worth_X3_of1
set_option maxRecDepth 20000 in
theorem ggX3_worth_X3_flow1 : GoodIn wsX3_worth wsX3_flow1 := goodIn_r _ [11, 1, 2, 3, 4, 5, 6, 7, 12, 13, 14, 15, 16, 17, 18, 19, 20, 21, 22, 23, 24, 25, 26, 27, 28, 29, 30, 31, 32, 33, 34, 35, 36, 37, 38, 39, 40] (by decide +kernel) (by decide +kernel)
set_option maxRecDepth 20000 in
theorem gX3_worth_X3_flow1 : GoodIn wsX3_worth (wsV RX3 110 RX3 yX3_flow1 wsX3_flow1) := goodIn_app (goodIn_of _ (by decide +kernel)) ggX3_worth_X3_flow1
theorem dX3_worth_0 : decode cX3_worth 0 = .ok (.lconst 0, 1) := by decide +kernel
theorem dX3_worth_1 : decode cX3_worth 1 = .ok (.lstore_n 3, 1) := by decide +kernel
theorem dX3_worth_2 : decode cX3_worth 2 = .ok (.aload_n 0, 1) := by decide +kernel
theorem dX3_worth_3 : decode cX3_worth 3 = .ok (.iload_n 1, 1) := by decide +kernel
theorem dX3_worth_4 : decode cX3_worth 4 = .ok (.iconst 2, 1) := by decide +kernel
theorem dX3_worth_5 : decode cX3_worth 5 = .ok (.invokevirtual 95, 3) := by decide +kernel
theorem dX3_worth_8 : decode cX3_worth 8 = .ok (.istore 5, 2) := by decide +kernel
theorem dX3_worth_10 : decode cX3_worth 10 = .ok (.iload 5, 2) := by decide +kernel
theorem dX3_worth_12 : decode cX3_worth 12 = .ok (.ifCond .le 30, 3) := by decide +kernel
theorem dX3_worth_15 : decode cX3_worth 15 = .ok (.lload_n 3, 1) := by decide +kernel

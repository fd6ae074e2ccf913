/-! ONE ROUND OF EACH LOOP, ONE JOIN: by what they are -/
theorem ksX0_layFlows_5   (n : Nat) (y0 : ST) (y1 : Nat) (y2 : Int32) (y3 : Int32) : kX0_layFlows_5  (n + 1) (y0, y1, y2, y3) = bkX0_layFlows_5 (kX0_layFlows_5  n) y0 y1 y2 y3 := rfl
theorem ksX0_discounted_20 (σ : ST)   (n : Nat) (y0 : Nat) (y1 : Int32) (y2 : Int64) (y3 : Int32) : kX0_discounted_20 σ (n + 1) (y0, y1, y2, y3) = bkX0_discounted_20 σ (kX0_discounted_20 σ n) y0 y1 y2 y3 := rfl
theorem ksX1_change_44   (y0 : ST) (y1 : Int32) (y2 : Int32) (y3 : Int32) (y4 : Int32) (y5 : Int32) : kX1_change_44  (y0, y1, y2, y3, y4, y5) = bkX1_change_44  y0 y1 y2 y3 y4 y5 := rfl
theorem ksX1_layPrices_22 (rc2 : ST × Int32 × Int32 → Option (ST))  (n : Nat) (y0 : ST) (y1 : Int32) (y2 : Int32) (y3 : Int32) (y4 : Int32) : kX1_layPrices_22 rc2 (n + 1) (y0, y1, y2, y3, y4) = bkX1_layPrices_22 rc2 (kX1_layPrices_22 rc2 n) y0 y1 y2 y3 y4 := rfl
theorem ksX1_layPrices_2   (n : Nat) (y0 : ST) (y1 : Int32) (y2 : Int32) : kX1_layPrices_2  (n + 1) (y0, y1, y2) = bkX1_layPrices_2 (kX1_layPrices_2  n) y0 y1 y2 := rfl
theorem ksX1_bestOn_8 (σ : ST)   (n : Nat) (y0 : Int32) (y1 : Int32) (y2 : Int32) (y3 : Int64) (y4 : Int32) : kX1_bestOn_8 σ (n + 1) (y0, y1, y2, y3, y4) = bkX1_bestOn_8 σ (kX1_bestOn_8 σ n) y0 y1 y2 y3 y4 := rfl
theorem ksX1_layNow_44   (n : Nat) (y0 : ST) (y1 : Int32) (y2 : Int32) : kX1_layNow_44  (n + 1) (y0, y1, y2) = bkX1_layNow_44 (kX1_layNow_44  n) y0 y1 y2 := rfl
theorem ksX1_layNow_3   (n : Nat) (y0 : ST) (y1 : Int32) (y2 : Int32) (y3 : Int32) : kX1_layNow_3  (n + 1) (y0, y1, y2, y3) = bkX1_layNow_3 (kX1_layNow_3  n) y0 y1 y2 y3 := rfl
theorem ksX1_rollBack_107 (rc30 : ST × Int32 × Int32 × Int32 → Option (Int64 × ST))  (y0 : ST) (y1 : Int32) (y2 : Int32) (y3 : Int32) (y4 : Int64) : kX1_rollBack_107 rc30 (y0, y1, y2, y3, y4) = bkX1_rollBack_107 rc30 y0 y1 y2 y3 y4 := rfl
theorem ksX1_rollBack_30 (rc23 : ST × Int32 × Int32 → Option (Int64 × ST))  (n : Nat) (y0 : ST) (y1 : Int32) (y2 : Int32) (y3 : Int32) : kX1_rollBack_30 rc23 (n + 1) (y0, y1, y2, y3) = bkX1_rollBack_30 rc23 (kX1_rollBack_30 rc23 n) y0 y1 y2 y3 := rfl
theorem ksX1_rollBack_23   (n : Nat) (y0 : ST) (y1 : Int32) (y2 : Int32) : kX1_rollBack_23  (n + 1) (y0, y1, y2) = bkX1_rollBack_23 (kX1_rollBack_23  n) y0 y1 y2 := rfl
theorem ksX1_rollBack_2   (n : Nat) (y0 : ST) (y1 : Int32) (y2 : Int32) (y3 : Int32) : kX1_rollBack_2  (n + 1) (y0, y1, y2, y3) = bkX1_rollBack_2 (kX1_rollBack_2  n) y0 y1 y2 y3 := rfl
theorem ksX1_pathsThatEndOn_81   (n : Nat) (y0 : ST) (y1 : Int32) (y2 : Int32) (y3 : Int32) : kX1_pathsThatEndOn_81  (n + 1) (y0, y1, y2, y3) = bkX1_pathsThatEndOn_81 (kX1_pathsThatEndOn_81  n) y0 y1 y2 y3 := rfl
theorem ksX1_pathsThatEndOn_48 (rc24 : ST × Int32 × Int32 × Int32 → Option (Int32 × ST))  (y0 : ST) (y1 : Int32) (y2 : Int32) (y3 : Int32) : kX1_pathsThatEndOn_48 rc24 (y0, y1, y2, y3) = bkX1_pathsThatEndOn_48 rc24 y0 y1 y2 y3 := rfl
theorem ksX1_pathsThatEndOn_24 (rc17 : ST × Int32 × Int32 → Option (Int32 × ST))  (n : Nat) (y0 : ST) (y1 : Int32) (y2 : Int32) (y3 : Int32) : kX1_pathsThatEndOn_24 rc17 (n + 1) (y0, y1, y2, y3) = bkX1_pathsThatEndOn_24 rc17 (kX1_pathsThatEndOn_24 rc17 n) y0 y1 y2 y3 := rfl
theorem ksX1_pathsThatEndOn_17   (n : Nat) (y0 : ST) (y1 : Int32) (y2 : Int32) : kX1_pathsThatEndOn_17  (n + 1) (y0, y1, y2) = bkX1_pathsThatEndOn_17 (kX1_pathsThatEndOn_17  n) y0 y1 y2 := rfl
theorem ksX2_drop_19   (n : Nat) (y0 : ST) (y1 : Nat) (y2 : Int32) : kX2_drop_19  (n + 1) (y0, y1, y2) = bkX2_drop_19 (kX2_drop_19  n) y0 y1 y2 := rfl
theorem ksX2_rateOf_17   (n : Nat) (y0 : ST) (y1 : Int32) (y2 : Int32) (y3 : Int32) (y4 : Int32) : kX2_rateOf_17  (n + 1) (y0, y1, y2, y3, y4) = bkX2_rateOf_17 (kX2_rateOf_17  n) y0 y1 y2 y3 y4 := rfl
theorem ksX2_contract_69   (n : Nat) (y0 : ST) (y1 : Int32) (y2 : Int32) : kX2_contract_69  (n + 1) (y0, y1, y2) = bkX2_contract_69 (kX2_contract_69  n) y0 y1 y2 := rfl
theorem ksX2_contract_51   (y0 : ST) (y1 : Int32) (y2 : Int32) (y3 : Int32) : kX2_contract_51  (y0, y1, y2, y3) = bkX2_contract_51  y0 y1 y2 y3 := rfl
theorem ksX2_eligibleBits_4 (σ : ST)   (n : Nat) (y0 : Int32) (y1 : Int32) : kX2_eligibleBits_4 σ (n + 1) (y0, y1) = bkX2_eligibleBits_4 σ (kX2_eligibleBits_4 σ n) y0 y1 := rfl
theorem ksX2_eligibleStock_4 (σ : ST)   (n : Nat) (y0 : Int32) (y1 : Int32) : kX2_eligibleStock_4 σ (n + 1) (y0, y1) = bkX2_eligibleStock_4 σ (kX2_eligibleStock_4 σ n) y0 y1 := rfl
theorem ksX2_layPrices_2   (n : Nat) (y0 : ST) (y1 : Int32) (y2 : Int32) (y3 : Int32) : kX2_layPrices_2  (n + 1) (y0, y1, y2, y3) = bkX2_layPrices_2 (kX2_layPrices_2  n) y0 y1 y2 y3 := rfl
theorem ksX2_cheapestAt_11   (n : Nat) (y0 : ST) (y1 : Int32) (y2 : Int32) (y3 : Int32) : kX2_cheapestAt_11  (n + 1) (y0, y1, y2, y3) = bkX2_cheapestAt_11 (kX2_cheapestAt_11  n) y0 y1 y2 y3 := rfl
theorem ksX2_howManyAhead_5 (σ : ST)   (n : Nat) (y0 : Int32) (y1 : Int32) (y2 : Int32) (y3 : Int32) : kX2_howManyAhead_5 σ (n + 1) (y0, y1, y2, y3) = bkX2_howManyAhead_5 σ (kX2_howManyAhead_5 σ n) y0 y1 y2 y3 := rfl
theorem ksX2_ranked_23   (n : Nat) (y0 : ST) (y1 : Int32) (y2 : Int32) (y3 : Int32) : kX2_ranked_23  (n + 1) (y0, y1, y2, y3) = bkX2_ranked_23 (kX2_ranked_23  n) y0 y1 y2 y3 := rfl
theorem ksX2_implied_19   (n : Nat) (y0 : ST) (y1 : Int64) (y2 : Int32) (y3 : Int32) (y4 : Int32) : kX2_implied_19  (n + 1) (y0, y1, y2, y3, y4) = bkX2_implied_19 (kX2_implied_19  n) y0 y1 y2 y3 y4 := rfl
theorem ksX2_leastCost_4 (σ : ST)   (n : Nat) (y0 : Int32) (y1 : Int32) (y2 : Int32) : kX2_leastCost_4 σ (n + 1) (y0, y1, y2) = bkX2_leastCost_4 σ (kX2_leastCost_4 σ n) y0 y1 y2 := rfl
theorem ksX2_takeCheapest_70   (n : Nat) (y0 : ST) (y1 : Int32) (y2 : Int32) (y3 : Int32) : kX2_takeCheapest_70  (n + 1) (y0, y1, y2, y3) = bkX2_takeCheapest_70 (kX2_takeCheapest_70  n) y0 y1 y2 y3 := rfl
theorem ksX2_takeCheapest_17   (n : Nat) (y0 : ST) (y1 : Int32) (y2 : Int32) (y3 : Int32) (y4 : Int32) (y5 : Int32) : kX2_takeCheapest_17  (n + 1) (y0, y1, y2, y3, y4, y5) = bkX2_takeCheapest_17 (kX2_takeCheapest_17  n) y0 y1 y2 y3 y4 y5 := rfl
theorem ksX2_meet_26   (y0 : ST) (y1 : Int32) (y2 : Int32) (y3 : Int32) (y4 : Int32) : kX2_meet_26  (y0, y1, y2, y3, y4) = bkX2_meet_26  y0 y1 y2 y3 y4 := rfl
theorem ksX2_path_42   (n : Nat) (y0 : ST) (y1 : Int32) (y2 : Int32) (y3 : Int32) (y4 : Int32) : kX2_path_42  (n + 1) (y0, y1, y2, y3, y4) = bkX2_path_42 (kX2_path_42  n) y0 y1 y2 y3 y4 := rfl
theorem ksX2_fair_31   (n : Nat) (y0 : ST) (y1 : Int32) (y2 : Int32) (y3 : Int32) : kX2_fair_31  (n + 1) (y0, y1, y2, y3) = bkX2_fair_31 (kX2_fair_31  n) y0 y1 y2 y3 := rfl
theorem ksX3_drop_30   (n : Nat) (y0 : ST) (y1 : Int32) : kX3_drop_30  (n + 1) (y0, y1) = bkX3_drop_30 (kX3_drop_30  n) y0 y1 := rfl
theorem ksX3_alter_69   (y0 : ST) (y1 : Int32) (y2 : Int32) (y3 : Int32) (y4 : Int32) : kX3_alter_69  (y0, y1, y2, y3, y4) = bkX3_alter_69  y0 y1 y2 y3 y4 := rfl
theorem ksX3_flow1_30 (σ : ST)   (y0 : Int32) (y1 : Int32) (y2 : Int32) (y3 : Int32) : kX3_flow1_30 σ (y0, y1, y2, y3) = bkX3_flow1_30 σ y0 y1 y2 y3 := rfl
theorem ksX3_worth_10 (σ : ST)   (n : Nat) (y0 : Int32) (y1 : Int32) (y2 : Int64) (y3 : Int32) : kX3_worth_10 σ (n + 1) (y0, y1, y2, y3) = bkX3_worth_10 σ (kX3_worth_10 σ n) y0 y1 y2 y3 := rfl
theorem ksX3_isEligible_16 (σ : ST)   (y0 : Int32) : kX3_isEligible_16 σ (y0) = bkX3_isEligible_16 σ y0 := rfl
theorem ksX3_eligible_4 (σ : ST)   (n : Nat) (y0 : Int32) (y1 : Int32) : kX3_eligible_4 σ (n + 1) (y0, y1) = bkX3_eligible_4 σ (kX3_eligible_4 σ n) y0 y1 := rfl
theorem ksX3_rateOf_17   (n : Nat) (y0 : ST) (y1 : Int32) (y2 : Int32) (y3 : Int32) : kX3_rateOf_17  (n + 1) (y0, y1, y2, y3) = bkX3_rateOf_17 (kX3_rateOf_17  n) y0 y1 y2 y3 := rfl
theorem ksX3_contract_65   (y0 : ST) (y1 : Int32) (y2 : Int32) (y3 : Int32) : kX3_contract_65  (y0, y1, y2, y3) = bkX3_contract_65  y0 y1 y2 y3 := rfl
theorem ksX3_stocks_4 (σ : ST)   (n : Nat) (y0 : Int32) (y1 : Int32) : kX3_stocks_4 σ (n + 1) (y0, y1) = bkX3_stocks_4 σ (kX3_stocks_4 σ n) y0 y1 := rfl
theorem ksX3_cheapest1_4 (σ : ST)   (n : Nat) (y0 : Int32) (y1 : Int32) (y2 : Int32) : kX3_cheapest1_4 σ (n + 1) (y0, y1, y2) = bkX3_cheapest1_4 σ (kX3_cheapest1_4 σ n) y0 y1 y2 := rfl
theorem ksX3_ranked_41 (rc16 : ST × Int32 × Int32 × Int32 → Option (Int32 × ST))  (n : Nat) (y0 : ST) (y1 : Int32) (y2 : Int32) (y3 : Int32) (y4 : Int32) (y5 : Int32) : kX3_ranked_41 rc16 (n + 1) (y0, y1, y2, y3, y4, y5) = bkX3_ranked_41 rc16 (kX3_ranked_41 rc16 n) y0 y1 y2 y3 y4 y5 := rfl
theorem ksX3_ranked_16   (n : Nat) (y0 : ST) (y1 : Int32) (y2 : Int32) (y3 : Int32) : kX3_ranked_16  (n + 1) (y0, y1, y2, y3) = bkX3_ranked_16 (kX3_ranked_16  n) y0 y1 y2 y3 := rfl
theorem ksX3_switches_46   (n : Nat) (y0 : ST) (y1 : Int32) (y2 : Int32) (y3 : Int32) (y4 : Int32) : kX3_switches_46  (n + 1) (y0, y1, y2, y3, y4) = bkX3_switches_46 (kX3_switches_46  n) y0 y1 y2 y3 y4 := rfl
theorem ksX3_implied_16   (n : Nat) (y0 : ST) (y1 : Int64) (y2 : Int32) : kX3_implied_16  (n + 1) (y0, y1, y2) = bkX3_implied_16 (kX3_implied_16  n) y0 y1 y2 := rfl
theorem ksX3_meets_66 (rc55 : ST × Int32 × Int32 → Option (Int32 × ST))  (n : Nat) (y0 : ST) (y1 : Int32) (y2 : Int32) (y3 : Int32) (y4 : Int32) : kX3_meets_66 rc55 (n + 1) (y0, y1, y2, y3, y4) = bkX3_meets_66 rc55 (kX3_meets_66 rc55 n) y0 y1 y2 y3 y4 := rfl
theorem ksX3_meets_55   (n : Nat) (y0 : ST) (y1 : Int32) (y2 : Int32) : kX3_meets_55  (n + 1) (y0, y1, y2) = bkX3_meets_55 (kX3_meets_55  n) y0 y1 y2 := rfl
theorem ksX3_meets_9   (n : Nat) (y0 : ST) (y1 : Int32) (y2 : Int32) (y3 : Int32) (y4 : Int32) (y5 : Int32) : kX3_meets_9  (n + 1) (y0, y1, y2, y3, y4, y5) = bkX3_meets_9 (kX3_meets_9  n) y0 y1 y2 y3 y4 y5 := rfl
theorem ksX3_meet_31   (y0 : ST) (y1 : Int32) (y2 : Int32) (y3 : Int32) (y4 : Int32) : kX3_meet_31  (y0, y1, y2, y3, y4) = bkX3_meet_31  y0 y1 y2 y3 y4 := rfl
theorem ksX3_cost_36   (n : Nat) (y0 : ST) (y1 : Int64) (y2 : Int32) : kX3_cost_36  (n + 1) (y0, y1, y2) = bkX3_cost_36 (kX3_cost_36  n) y0 y1 y2 := rfl
theorem ksX3_tree_110   (y0 : ST) (y1 : Int32) (y2 : Int32) (y3 : Int32) (y4 : Int32) (y5 : Int32) : kX3_tree_110  (y0, y1, y2, y3, y4, y5) = bkX3_tree_110  y0 y1 y2 y3 y4 y5 := rfl
theorem ksX3_laysNow_89 (rc17 : ST × Int32 × Int32 × Int32 × Int32 → Option (ST))  (y0 : ST) (y1 : Int32) (y2 : Int32) (y3 : Int32) (y4 : Int32) (y5 : Int64) : kX3_laysNow_89 rc17 (y0, y1, y2, y3, y4, y5) = bkX3_laysNow_89 rc17 y0 y1 y2 y3 y4 y5 := rfl
theorem ksX3_laysNow_17   (n : Nat) (y0 : ST) (y1 : Int32) (y2 : Int32) (y3 : Int32) (y4 : Int32) : kX3_laysNow_17  (n + 1) (y0, y1, y2, y3, y4) = bkX3_laysNow_17 (kX3_laysNow_17  n) y0 y1 y2 y3 y4 := rfl
theorem ksX3_laysTree_111 (rc20 : ST × Int32 × Int32 × Int32 → Option (ST))  (y0 : ST) (y1 : Int32) (y2 : Int32) (y3 : Int32) (y4 : Int32) (y5 : Int32) (y6 : Int32) (y7 : Int64) : kX3_laysTree_111 rc20 (y0, y1, y2, y3, y4, y5, y6, y7) = bkX3_laysTree_111 rc20 y0 y1 y2 y3 y4 y5 y6 y7 := rfl
theorem ksX3_laysTree_61 (rc20 : ST × Int32 × Int32 × Int32 → Option (ST))  (y0 : ST) (y1 : Int32) (y2 : Int32) (y3 : Int32) (y4 : Int32) (y5 : Int32) : kX3_laysTree_61 rc20 (y0, y1, y2, y3, y4, y5) = bkX3_laysTree_61 rc20 y0 y1 y2 y3 y4 y5 := rfl
theorem ksX3_laysTree_20 (rc14 : ST × Int32 × Int32 → Option (ST))  (n : Nat) (y0 : ST) (y1 : Int32) (y2 : Int32) (y3 : Int32) : kX3_laysTree_20 rc14 (n + 1) (y0, y1, y2, y3) = bkX3_laysTree_20 rc14 (kX3_laysTree_20 rc14 n) y0 y1 y2 y3 := rfl
theorem ksX3_laysTree_14   (n : Nat) (y0 : ST) (y1 : Int32) (y2 : Int32) : kX3_laysTree_14  (n + 1) (y0, y1, y2) = bkX3_laysTree_14 (kX3_laysTree_14  n) y0 y1 y2 := rfl
theorem ksX3_path_42   (n : Nat) (y0 : ST) (y1 : Int32) (y2 : Int32) (y3 : Int32) (y4 : Int32) : kX3_path_42  (n + 1) (y0, y1, y2, y3, y4) = bkX3_path_42 (kX3_path_42  n) y0 y1 y2 y3 y4 := rfl
theorem ksX3_often_161 (rc45 : ST × Int32 × Int32 × Int32 × Int32 → Option (Int32 × ST))  (y0 : ST) (y1 : Int32) (y2 : Int32) (y3 : Int32) (y4 : Int32) (y5 : Int32) : kX3_often_161 rc45 (y0, y1, y2, y3, y4, y5) = bkX3_often_161 rc45 y0 y1 y2 y3 y4 y5 := rfl
theorem ksX3_often_119 (rc45 : ST × Int32 × Int32 × Int32 × Int32 → Option (Int32 × ST))  (y0 : ST) (y1 : Int32) (y2 : Int32) (y3 : Int32) (y4 : Int32) (y5 : Int32) : kX3_often_119 rc45 (y0, y1, y2, y3, y4, y5) = bkX3_often_119 rc45 y0 y1 y2 y3 y4 y5 := rfl
theorem ksX3_often_75 (rc45 : ST × Int32 × Int32 × Int32 × Int32 → Option (Int32 × ST))  (y0 : ST) (y1 : Int32) (y2 : Int32) (y3 : Int32) (y4 : Int32) (y5 : Int32) (y6 : Int32) (y7 : Int32) : kX3_often_75 rc45 (y0, y1, y2, y3, y4, y5, y6, y7) = bkX3_often_75 rc45 y0 y1 y2 y3 y4 y5 y6 y7 := rfl
theorem ksX3_often_45 (rc37 : ST × Int32 × Int32 × Int32 → Option (Int32 × ST))  (n : Nat) (y0 : ST) (y1 : Int32) (y2 : Int32) (y3 : Int32) (y4 : Int32) : kX3_often_45 rc37 (n + 1) (y0, y1, y2, y3, y4) = bkX3_often_45 rc37 (kX3_often_45 rc37 n) y0 y1 y2 y3 y4 := rfl
theorem ksX3_often_37   (n : Nat) (y0 : ST) (y1 : Int32) (y2 : Int32) (y3 : Int32) : kX3_often_37  (n + 1) (y0, y1, y2, y3) = bkX3_often_37 (kX3_often_37  n) y0 y1 y2 y3 := rfl
theorem ksX3_without_62   (y0 : ST) (y1 : Int64) (y2 : Int32) : kX3_without_62  (y0, y1, y2) = bkX3_without_62  y0 y1 y2 := rfl
theorem ksX3_fair_28   (n : Nat) (y0 : ST) (y1 : Int32) (y2 : Int32) : kX3_fair_28  (n + 1) (y0, y1, y2) = bkX3_fair_28 (kX3_fair_28  n) y0 y1 y2 := rfl
theorem ksX2_cost_35   (n : Nat) (y0 : ST) (y1 : Int64) (y2 : Int32) : kX2_cost_35  (n + 1) (y0, y1, y2) = bkX2_cost_35 (kX2_cost_35  n) y0 y1 y2 := rfl
theorem ksX2_keepWorths_2  (n : Nat) (y0 : ST) (y1 : Int32) (y2 : Int32) : kX2_keepWorths_2  (n + 1) (y0, y1, y2) = bkX2_keepWorths_2 (kX2_keepWorths_2  n) y0 y1 y2 := rfl
theorem ksX2_switches_60   (n : Nat) (y0 : ST) (y1 : Int32) (y2 : Int32) (y3 : Int32) (y4 : Int32) (y5 : Int32) (y6 : Int32) : kX2_switches_60  (n + 1) (y0, y1, y2, y3, y4, y5, y6) = bkX2_switches_60 (kX2_switches_60  n) y0 y1 y2 y3 y4 y5 y6 := rfl

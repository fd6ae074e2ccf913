section
-- ===== PART A: goes FIRST, ahead of the names: the tables' words, and 'selects' of the private methods out of them =====
/-- a private method of a class that the tables say can be made, by its rows of tables_1 -/
def lw_okq (q : MethodName × Nat) : Prop := (q.1.cls ≠ "java/lang/invoke/MethodHandle" ∧ q.1.cls ≠ "java/lang/invoke/VarHandle") ∧ Cond.instantiable q.1.cls q.2 ∈ tables_1 ∧ Cond.privateMethod q.1 ∈ tables_1 ∧ Cond.instanceMethod q.1 ∈ tables_1
theorem lw_p0 : lw_okq (⟨"DeliveryBasket$Bond", "layFlows", "()V"⟩, 10) := ⟨⟨by decide +kernel, by decide +kernel⟩, List.mem_of_getElem? (i := 78) (by decide +kernel), List.mem_of_getElem? (i := 166) (by decide +kernel), List.mem_of_getElem? (i := 167) (by decide +kernel)⟩
theorem lw_p1 : lw_okq (⟨"DeliveryBasket$Bond", "paidBack", "(II)I"⟩, 10) := ⟨⟨by decide +kernel, by decide +kernel⟩, List.mem_of_getElem? (i := 78) (by decide +kernel), List.mem_of_getElem? (i := 171) (by decide +kernel), List.mem_of_getElem? (i := 172) (by decide +kernel)⟩
theorem lw_p2 : lw_okq (⟨"DeliveryBasket$Bond", "couponIn", "(I)I"⟩, 10) := ⟨⟨by decide +kernel, by decide +kernel⟩, List.mem_of_getElem? (i := 78) (by decide +kernel), List.mem_of_getElem? (i := 175) (by decide +kernel), List.mem_of_getElem? (i := 176) (by decide +kernel)⟩
theorem lw_p3 : lw_okq (⟨"DeliveryBasket$Bond", "worthAt", "(I)I"⟩, 10) := ⟨⟨by decide +kernel, by decide +kernel⟩, List.mem_of_getElem? (i := 78) (by decide +kernel), List.mem_of_getElem? (i := 187) (by decide +kernel), List.mem_of_getElem? (i := 188) (by decide +kernel)⟩
theorem lw_p4 : lw_okq (⟨"DeliveryBasket$Bond", "discounted", "(I)I"⟩, 10) := ⟨⟨by decide +kernel, by decide +kernel⟩, List.mem_of_getElem? (i := 78) (by decide +kernel), List.mem_of_getElem? (i := 192) (by decide +kernel), List.mem_of_getElem? (i := 193) (by decide +kernel)⟩
theorem lw_p5 : lw_okq (⟨"DeliveryBasket", "has", "(I)Z"⟩, 9) := ⟨⟨by decide +kernel, by decide +kernel⟩, List.mem_of_getElem? (i := 12) (by decide +kernel), List.mem_of_getElem? (i := 200) (by decide +kernel), List.mem_of_getElem? (i := 201) (by decide +kernel)⟩
theorem lw_p6 : lw_okq (⟨"DeliveryBasket", "eligibleBits", "()I"⟩, 9) := ⟨⟨by decide +kernel, by decide +kernel⟩, List.mem_of_getElem? (i := 12) (by decide +kernel), List.mem_of_getElem? (i := 250) (by decide +kernel), List.mem_of_getElem? (i := 251) (by decide +kernel)⟩
theorem lw_p7 : lw_okq (⟨"DeliveryBasket", "isEligible", "(I)Z"⟩, 9) := ⟨⟨by decide +kernel, by decide +kernel⟩, List.mem_of_getElem? (i := 12) (by decide +kernel), List.mem_of_getElem? (i := 254) (by decide +kernel), List.mem_of_getElem? (i := 255) (by decide +kernel)⟩
theorem lw_p8 : lw_okq (⟨"DeliveryBasket", "eligibleStock", "()I"⟩, 9) := ⟨⟨by decide +kernel, by decide +kernel⟩, List.mem_of_getElem? (i := 12) (by decide +kernel), List.mem_of_getElem? (i := 258) (by decide +kernel), List.mem_of_getElem? (i := 259) (by decide +kernel)⟩
theorem lw_p9 : lw_okq (⟨"DeliveryBasket", "cheapestAt", "(II)I"⟩, 9) := ⟨⟨by decide +kernel, by decide +kernel⟩, List.mem_of_getElem? (i := 12) (by decide +kernel), List.mem_of_getElem? (i := 266) (by decide +kernel), List.mem_of_getElem? (i := 267) (by decide +kernel)⟩
theorem lw_p10 : lw_okq (⟨"DeliveryBasket", "layPrices", "(II)V"⟩, 9) := ⟨⟨by decide +kernel, by decide +kernel⟩, List.mem_of_getElem? (i := 12) (by decide +kernel), List.mem_of_getElem? (i := 270) (by decide +kernel), List.mem_of_getElem? (i := 271) (by decide +kernel)⟩
theorem lw_p11 : lw_okq (⟨"DeliveryBasket", "comesAhead", "(II)Z"⟩, 9) := ⟨⟨by decide +kernel, by decide +kernel⟩, List.mem_of_getElem? (i := 12) (by decide +kernel), List.mem_of_getElem? (i := 277) (by decide +kernel), List.mem_of_getElem? (i := 278) (by decide +kernel)⟩
theorem lw_p12 : lw_okq (⟨"DeliveryBasket", "howManyAhead", "(II)I"⟩, 9) := ⟨⟨by decide +kernel, by decide +kernel⟩, List.mem_of_getElem? (i := 12) (by decide +kernel), List.mem_of_getElem? (i := 285) (by decide +kernel), List.mem_of_getElem? (i := 286) (by decide +kernel)⟩
theorem lw_p13 : lw_okq (⟨"DeliveryBasket", "markAt", "(II)J"⟩, 9) := ⟨⟨by decide +kernel, by decide +kernel⟩, List.mem_of_getElem? (i := 12) (by decide +kernel), List.mem_of_getElem? (i := 293) (by decide +kernel), List.mem_of_getElem? (i := 294) (by decide +kernel)⟩
theorem lw_p14 : lw_okq (⟨"DeliveryBasket", "keepWorths", "(I)V"⟩, 9) := ⟨⟨by decide +kernel, by decide +kernel⟩, List.mem_of_getElem? (i := 12) (by decide +kernel), List.mem_of_getElem? (i := 303) (by decide +kernel), List.mem_of_getElem? (i := 304) (by decide +kernel)⟩
theorem lw_p15 : lw_okq (⟨"DeliveryBasket", "takeCheapest", "(III)Z"⟩, 9) := ⟨⟨by decide +kernel, by decide +kernel⟩, List.mem_of_getElem? (i := 12) (by decide +kernel), List.mem_of_getElem? (i := 323) (by decide +kernel), List.mem_of_getElem? (i := 324) (by decide +kernel)⟩
def lw_privs_1 : List (MethodName × Nat) := [(⟨"DeliveryBasket$Bond", "layFlows", "()V"⟩, 10), (⟨"DeliveryBasket$Bond", "paidBack", "(II)I"⟩, 10), (⟨"DeliveryBasket$Bond", "couponIn", "(I)I"⟩, 10), (⟨"DeliveryBasket$Bond", "worthAt", "(I)I"⟩, 10), (⟨"DeliveryBasket$Bond", "discounted", "(I)I"⟩, 10), (⟨"DeliveryBasket", "has", "(I)Z"⟩, 9), (⟨"DeliveryBasket", "eligibleBits", "()I"⟩, 9), (⟨"DeliveryBasket", "isEligible", "(I)Z"⟩, 9), (⟨"DeliveryBasket", "eligibleStock", "()I"⟩, 9), (⟨"DeliveryBasket", "cheapestAt", "(II)I"⟩, 9), (⟨"DeliveryBasket", "layPrices", "(II)V"⟩, 9), (⟨"DeliveryBasket", "comesAhead", "(II)Z"⟩, 9), (⟨"DeliveryBasket", "howManyAhead", "(II)I"⟩, 9), (⟨"DeliveryBasket", "markAt", "(II)J"⟩, 9), (⟨"DeliveryBasket", "keepWorths", "(I)V"⟩, 9), (⟨"DeliveryBasket", "takeCheapest", "(III)Z"⟩, 9)]
theorem lw_r1 : ∀ q ∈ lw_privs_1, lw_okq q := List.forall_mem_cons.mpr ⟨lw_p0, List.forall_mem_cons.mpr ⟨lw_p1, List.forall_mem_cons.mpr ⟨lw_p2, List.forall_mem_cons.mpr ⟨lw_p3, List.forall_mem_cons.mpr ⟨lw_p4, List.forall_mem_cons.mpr ⟨lw_p5, List.forall_mem_cons.mpr ⟨lw_p6, List.forall_mem_cons.mpr ⟨lw_p7, List.forall_mem_cons.mpr ⟨lw_p8, List.forall_mem_cons.mpr ⟨lw_p9, List.forall_mem_cons.mpr ⟨lw_p10, List.forall_mem_cons.mpr ⟨lw_p11, List.forall_mem_cons.mpr ⟨lw_p12, List.forall_mem_cons.mpr ⟨lw_p13, List.forall_mem_cons.mpr ⟨lw_p14, List.forall_mem_cons.mpr ⟨lw_p15, fun _ h => absurd h List.not_mem_nil⟩⟩⟩⟩⟩⟩⟩⟩⟩⟩⟩⟩⟩⟩⟩⟩
theorem lw_p16 : lw_okq (⟨"DeliveryBasket", "leastCost", "(I)I"⟩, 9) := ⟨⟨by decide +kernel, by decide +kernel⟩, List.mem_of_getElem? (i := 12) (by decide +kernel), List.mem_of_getElem? (i := 332) (by decide +kernel), List.mem_of_getElem? (i := 333) (by decide +kernel)⟩
theorem lw_p17 : lw_okq (⟨"DeliveryBasket", "valueBy", "(I)J"⟩, 9) := ⟨⟨by decide +kernel, by decide +kernel⟩, List.mem_of_getElem? (i := 12) (by decide +kernel), List.mem_of_getElem? (i := 376) (by decide +kernel), List.mem_of_getElem? (i := 377) (by decide +kernel)⟩
theorem lw_p18 : lw_okq (⟨"DeliveryBasket$Lattice", "bestOn", "(II)I"⟩, 12) := ⟨⟨by decide +kernel, by decide +kernel⟩, List.mem_of_getElem? (i := 22) (by decide +kernel), List.mem_of_getElem? (i := 392) (by decide +kernel), List.mem_of_getElem? (i := 393) (by decide +kernel)⟩
theorem lw_p19 : lw_okq (⟨"DeliveryBasket$Lattice", "deliverAt", "(II)V"⟩, 12) := ⟨⟨by decide +kernel, by decide +kernel⟩, List.mem_of_getElem? (i := 22) (by decide +kernel), List.mem_of_getElem? (i := 400) (by decide +kernel), List.mem_of_getElem? (i := 401) (by decide +kernel)⟩
theorem lw_p20 : lw_okq (⟨"java/lang/Throwable", "fillInStackTrace", "(I)Ljava/lang/Throwable;"⟩, 6) := ⟨⟨by decide +kernel, by decide +kernel⟩, List.mem_of_getElem? (i := 472) (by decide +kernel), List.mem_of_getElem? (i := 470) (by decide +kernel), List.mem_of_getElem? (i := 471) (by decide +kernel)⟩
theorem lw_p21 : lw_okq (⟨"DeliveryBasketModel", "isBond", "(I)Z"⟩, 20) := ⟨⟨by decide +kernel, by decide +kernel⟩, List.mem_of_getElem? (i := 551) (by decide +kernel), List.mem_of_getElem? (i := 643) (by decide +kernel), List.mem_of_getElem? (i := 644) (by decide +kernel)⟩
theorem lw_p22 : lw_okq (⟨"DeliveryBasketModel", "of1", "(II)I"⟩, 20) := ⟨⟨by decide +kernel, by decide +kernel⟩, List.mem_of_getElem? (i := 551) (by decide +kernel), List.mem_of_getElem? (i := 653) (by decide +kernel), List.mem_of_getElem? (i := 654) (by decide +kernel)⟩
theorem lw_p23 : lw_okq (⟨"DeliveryBasketModel", "refuse", "()I"⟩, 20) := ⟨⟨by decide +kernel, by decide +kernel⟩, List.mem_of_getElem? (i := 551) (by decide +kernel), List.mem_of_getElem? (i := 661) (by decide +kernel), List.mem_of_getElem? (i := 662) (by decide +kernel)⟩
theorem lw_p24 : lw_okq (⟨"DeliveryBasketModel", "factor", "(I)J"⟩, 20) := ⟨⟨by decide +kernel, by decide +kernel⟩, List.mem_of_getElem? (i := 551) (by decide +kernel), List.mem_of_getElem? (i := 665) (by decide +kernel), List.mem_of_getElem? (i := 666) (by decide +kernel)⟩
theorem lw_p25 : lw_okq (⟨"DeliveryBasketModel", "worth", "(II)J"⟩, 20) := ⟨⟨by decide +kernel, by decide +kernel⟩, List.mem_of_getElem? (i := 551) (by decide +kernel), List.mem_of_getElem? (i := 669) (by decide +kernel), List.mem_of_getElem? (i := 670) (by decide +kernel)⟩
theorem lw_p26 : lw_okq (⟨"DeliveryBasketModel", "flow1", "(II)J"⟩, 20) := ⟨⟨by decide +kernel, by decide +kernel⟩, List.mem_of_getElem? (i := 551) (by decide +kernel), List.mem_of_getElem? (i := 673) (by decide +kernel), List.mem_of_getElem? (i := 674) (by decide +kernel)⟩
theorem lw_p27 : lw_okq (⟨"DeliveryBasketModel", "owed", "(II)J"⟩, 20) := ⟨⟨by decide +kernel, by decide +kernel⟩, List.mem_of_getElem? (i := 551) (by decide +kernel), List.mem_of_getElem? (i := 677) (by decide +kernel), List.mem_of_getElem? (i := 678) (by decide +kernel)⟩
theorem lw_p28 : lw_okq (⟨"DeliveryBasketModel", "back", "(II)J"⟩, 20) := ⟨⟨by decide +kernel, by decide +kernel⟩, List.mem_of_getElem? (i := 551) (by decide +kernel), List.mem_of_getElem? (i := 683) (by decide +kernel), List.mem_of_getElem? (i := 684) (by decide +kernel)⟩
theorem lw_p29 : lw_okq (⟨"DeliveryBasketModel", "isEligible", "(I)Z"⟩, 20) := ⟨⟨by decide +kernel, by decide +kernel⟩, List.mem_of_getElem? (i := 551) (by decide +kernel), List.mem_of_getElem? (i := 687) (by decide +kernel), List.mem_of_getElem? (i := 688) (by decide +kernel)⟩
theorem lw_p30 : lw_okq (⟨"DeliveryBasketModel", "price1", "(II)J"⟩, 20) := ⟨⟨by decide +kernel, by decide +kernel⟩, List.mem_of_getElem? (i := 551) (by decide +kernel), List.mem_of_getElem? (i := 703) (by decide +kernel), List.mem_of_getElem? (i := 704) (by decide +kernel)⟩
theorem lw_p31 : lw_okq (⟨"DeliveryBasketModel", "eligible", "()I"⟩, 20) := ⟨⟨by decide +kernel, by decide +kernel⟩, List.mem_of_getElem? (i := 551) (by decide +kernel), List.mem_of_getElem? (i := 719) (by decide +kernel), List.mem_of_getElem? (i := 720) (by decide +kernel)⟩
def lw_privs_2 : List (MethodName × Nat) := [(⟨"DeliveryBasket", "leastCost", "(I)I"⟩, 9), (⟨"DeliveryBasket", "valueBy", "(I)J"⟩, 9), (⟨"DeliveryBasket$Lattice", "bestOn", "(II)I"⟩, 12), (⟨"DeliveryBasket$Lattice", "deliverAt", "(II)V"⟩, 12), (⟨"java/lang/Throwable", "fillInStackTrace", "(I)Ljava/lang/Throwable;"⟩, 6), (⟨"DeliveryBasketModel", "isBond", "(I)Z"⟩, 20), (⟨"DeliveryBasketModel", "of1", "(II)I"⟩, 20), (⟨"DeliveryBasketModel", "refuse", "()I"⟩, 20), (⟨"DeliveryBasketModel", "factor", "(I)J"⟩, 20), (⟨"DeliveryBasketModel", "worth", "(II)J"⟩, 20), (⟨"DeliveryBasketModel", "flow1", "(II)J"⟩, 20), (⟨"DeliveryBasketModel", "owed", "(II)J"⟩, 20), (⟨"DeliveryBasketModel", "back", "(II)J"⟩, 20), (⟨"DeliveryBasketModel", "isEligible", "(I)Z"⟩, 20), (⟨"DeliveryBasketModel", "price1", "(II)J"⟩, 20), (⟨"DeliveryBasketModel", "eligible", "()I"⟩, 20)]
theorem lw_r2 : ∀ q ∈ lw_privs_2, lw_okq q := List.forall_mem_cons.mpr ⟨lw_p16, List.forall_mem_cons.mpr ⟨lw_p17, List.forall_mem_cons.mpr ⟨lw_p18, List.forall_mem_cons.mpr ⟨lw_p19, List.forall_mem_cons.mpr ⟨lw_p20, List.forall_mem_cons.mpr ⟨lw_p21, List.forall_mem_cons.mpr ⟨lw_p22, List.forall_mem_cons.mpr ⟨lw_p23, List.forall_mem_cons.mpr ⟨lw_p24, List.forall_mem_cons.mpr ⟨lw_p25, List.forall_mem_cons.mpr ⟨lw_p26, List.forall_mem_cons.mpr ⟨lw_p27, List.forall_mem_cons.mpr ⟨lw_p28, List.forall_mem_cons.mpr ⟨lw_p29, List.forall_mem_cons.mpr ⟨lw_p30, List.forall_mem_cons.mpr ⟨lw_p31, fun _ h => absurd h List.not_mem_nil⟩⟩⟩⟩⟩⟩⟩⟩⟩⟩⟩⟩⟩⟩⟩⟩
theorem lw_p32 : lw_okq (⟨"DeliveryBasketModel", "stocks", "()I"⟩, 20) := ⟨⟨by decide +kernel, by decide +kernel⟩, List.mem_of_getElem? (i := 551) (by decide +kernel), List.mem_of_getElem? (i := 723) (by decide +kernel), List.mem_of_getElem? (i := 724) (by decide +kernel)⟩
theorem lw_p33 : lw_okq (⟨"DeliveryBasketModel", "cheapest1", "(I)I"⟩, 20) := ⟨⟨by decide +kernel, by decide +kernel⟩, List.mem_of_getElem? (i := 551) (by decide +kernel), List.mem_of_getElem? (i := 731) (by decide +kernel), List.mem_of_getElem? (i := 732) (by decide +kernel)⟩
theorem lw_p34 : lw_okq (⟨"DeliveryBasketModel", "isDearer", "(III)Z"⟩, 20) := ⟨⟨by decide +kernel, by decide +kernel⟩, List.mem_of_getElem? (i := 551) (by decide +kernel), List.mem_of_getElem? (i := 735) (by decide +kernel), List.mem_of_getElem? (i := 736) (by decide +kernel)⟩
theorem lw_p35 : lw_okq (⟨"DeliveryBasketModel", "isAny", "()Z"⟩, 20) := ⟨⟨by decide +kernel, by decide +kernel⟩, List.mem_of_getElem? (i := 551) (by decide +kernel), List.mem_of_getElem? (i := 747) (by decide +kernel), List.mem_of_getElem? (i := 748) (by decide +kernel)⟩
theorem lw_p36 : lw_okq (⟨"DeliveryBasketModel", "mark1", "(I)J"⟩, 20) := ⟨⟨by decide +kernel, by decide +kernel⟩, List.mem_of_getElem? (i := 551) (by decide +kernel), List.mem_of_getElem? (i := 751) (by decide +kernel), List.mem_of_getElem? (i := 752) (by decide +kernel)⟩
theorem lw_p37 : lw_okq (⟨"DeliveryBasketModel", "invoice", "(IJ)J"⟩, 20) := ⟨⟨by decide +kernel, by decide +kernel⟩, List.mem_of_getElem? (i := 551) (by decide +kernel), List.mem_of_getElem? (i := 760) (by decide +kernel), List.mem_of_getElem? (i := 761) (by decide +kernel)⟩
theorem lw_p38 : lw_okq (⟨"DeliveryBasketModel", "meets", "(III)Z"⟩, 20) := ⟨⟨by decide +kernel, by decide +kernel⟩, List.mem_of_getElem? (i := 551) (by decide +kernel), List.mem_of_getElem? (i := 780) (by decide +kernel), List.mem_of_getElem? (i := 781) (by decide +kernel)⟩
theorem lw_p39 : lw_okq (⟨"DeliveryBasketModel", "isNode", "(II)Z"⟩, 20) := ⟨⟨by decide +kernel, by decide +kernel⟩, List.mem_of_getElem? (i := 551) (by decide +kernel), List.mem_of_getElem? (i := 800) (by decide +kernel), List.mem_of_getElem? (i := 801) (by decide +kernel)⟩
theorem lw_p40 : lw_okq (⟨"DeliveryBasketModel", "rate1", "(II)I"⟩, 20) := ⟨⟨by decide +kernel, by decide +kernel⟩, List.mem_of_getElem? (i := 551) (by decide +kernel), List.mem_of_getElem? (i := 804) (by decide +kernel), List.mem_of_getElem? (i := 805) (by decide +kernel)⟩
theorem lw_p41 : lw_okq (⟨"DeliveryBasketModel", "laysTree", "(I)V"⟩, 20) := ⟨⟨by decide +kernel, by decide +kernel⟩, List.mem_of_getElem? (i := 551) (by decide +kernel), List.mem_of_getElem? (i := 812) (by decide +kernel), List.mem_of_getElem? (i := 813) (by decide +kernel)⟩
theorem lw_p42 : lw_okq (⟨"DeliveryBasketModel", "laysNow", "(II)V"⟩, 20) := ⟨⟨by decide +kernel, by decide +kernel⟩, List.mem_of_getElem? (i := 551) (by decide +kernel), List.mem_of_getElem? (i := 816) (by decide +kernel), List.mem_of_getElem? (i := 817) (by decide +kernel)⟩
theorem lw_p43 : lw_okq (⟨"DeliveryBasketModel", "delivers", "(II)Z"⟩, 20) := ⟨⟨by decide +kernel, by decide +kernel⟩, List.mem_of_getElem? (i := 551) (by decide +kernel), List.mem_of_getElem? (i := 827) (by decide +kernel), List.mem_of_getElem? (i := 828) (by decide +kernel)⟩
theorem lw_p44 : lw_okq (⟨"DeliveryBasketModel", "isFair", "(I)Z"⟩, 20) := ⟨⟨by decide +kernel, by decide +kernel⟩, List.mem_of_getElem? (i := 551) (by decide +kernel), List.mem_of_getElem? (i := 856) (by decide +kernel), List.mem_of_getElem? (i := 857) (by decide +kernel)⟩
def lw_privs_3 : List (MethodName × Nat) := [(⟨"DeliveryBasketModel", "stocks", "()I"⟩, 20), (⟨"DeliveryBasketModel", "cheapest1", "(I)I"⟩, 20), (⟨"DeliveryBasketModel", "isDearer", "(III)Z"⟩, 20), (⟨"DeliveryBasketModel", "isAny", "()Z"⟩, 20), (⟨"DeliveryBasketModel", "mark1", "(I)J"⟩, 20), (⟨"DeliveryBasketModel", "invoice", "(IJ)J"⟩, 20), (⟨"DeliveryBasketModel", "meets", "(III)Z"⟩, 20), (⟨"DeliveryBasketModel", "isNode", "(II)Z"⟩, 20), (⟨"DeliveryBasketModel", "rate1", "(II)I"⟩, 20), (⟨"DeliveryBasketModel", "laysTree", "(I)V"⟩, 20), (⟨"DeliveryBasketModel", "laysNow", "(II)V"⟩, 20), (⟨"DeliveryBasketModel", "delivers", "(II)Z"⟩, 20), (⟨"DeliveryBasketModel", "isFair", "(I)Z"⟩, 20)]
theorem lw_r3 : ∀ q ∈ lw_privs_3, lw_okq q := List.forall_mem_cons.mpr ⟨lw_p32, List.forall_mem_cons.mpr ⟨lw_p33, List.forall_mem_cons.mpr ⟨lw_p34, List.forall_mem_cons.mpr ⟨lw_p35, List.forall_mem_cons.mpr ⟨lw_p36, List.forall_mem_cons.mpr ⟨lw_p37, List.forall_mem_cons.mpr ⟨lw_p38, List.forall_mem_cons.mpr ⟨lw_p39, List.forall_mem_cons.mpr ⟨lw_p40, List.forall_mem_cons.mpr ⟨lw_p41, List.forall_mem_cons.mpr ⟨lw_p42, List.forall_mem_cons.mpr ⟨lw_p43, List.forall_mem_cons.mpr ⟨lw_p44, fun _ h => absurd h List.not_mem_nil⟩⟩⟩⟩⟩⟩⟩⟩⟩⟩⟩⟩⟩
def lw_privs : List (MethodName × Nat) := lw_privs_1 ++ (lw_privs_2 ++ (lw_privs_3))
def lw_tbl : List Cond := k2_sels lw_privs ++ tables_1
theorem lw_privs_ok : ∀ q ∈ lw_privs, lw_okq q := by
  show ∀ q ∈ lw_privs_1 ++ (lw_privs_2 ++ (lw_privs_3)), lw_okq q
  exact List.forall_mem_append.mpr ⟨lw_r1, List.forall_mem_append.mpr ⟨lw_r2, lw_r3⟩⟩
/-! ===== BEGIN words of one list among another's, by their places ===== -/
theorem goodIn_r {big : List Cond} (ws : List Cond) (ps : List Nat) (hp : ws = ps.filterMap (fun i => big[i]?)) (h : ws.all goodWord = true) : GoodIn big ws := by
  intro w hw
  have h1 := List.all_eq_true.mp h w hw
  rw [hp] at hw
  obtain ⟨i, -, hi⟩ := List.mem_filterMap.mp hw
  have hm : w ∈ big := by first | exact List.mem_of_getElem? hi | exact List.getElem?_mem hi
  exact ⟨hm, good_of_word h1⟩
theorem goodIn_app {big a b : List Cond} (ha : GoodIn big a) (hb : GoodIn big b) : GoodIn big (a ++ b) := fun w h => (List.mem_append.mp h).elim (ha w) (hb w)
theorem goodIn_ca {big a b : List Cond} {c : Cond} (ha : GoodIn big (c :: a)) (hb : GoodIn big b) : GoodIn big (c :: (a ++ b)) := fun w h => (List.mem_cons.mp h).elim (fun e => ha w (List.mem_cons.mpr (Or.inl e))) (fun h => (List.mem_append.mp h).elim (fun h => ha w (List.mem_cons.mpr (Or.inr h))) (hb w))
theorem goodIn_sub {big ws : List Cond} (hm : ∀ w ∈ ws, w ∈ big) (h : ws.all goodWord = true) : GoodIn big ws := fun w hw => ⟨hm w hw, good_of_word (List.all_eq_true.mp h w hw)⟩
/-! ===== END ===== -/

/-! ===== BEGIN exceptions that leave a method, and their catching by the caller (launches without stack traces) ===== -/
section VXA
/-! The laws vx_back, vx_callV, vx_callS, vx_callSW, vx_throw0, vx_throwS follow proofs of the library, with one case more: JvmDerived/Free/Laws.lean (Back.of_free), Shelf42/LK1.lean (callV, callS), Shelf/KitTraced.lean (throwNew0V, throwNewS). -/
/-- where a method has thrown q: the class by its name, the cell, what was written, the world -/
def vx_T (XC : String → State → State → Prop) (st : State) (q : Addr) (t : State) (mc ms : Nat) (free : Addr → Prop) : Prop :=
  ∃ (E : String) (ce : Cell) (L : List Loc), XC E st t ∧ t.heap[q]? = some ce ∧ ce.vm = .none ∧ st.vm.findClass E = some ce.cls ∧ st.WarmedH t.vm ∧ st.sameButNew ({ t with vm := st.vm } : State) L mc ms ∧ ∀ z ∈ L, free z.base
def vx_Q (Qc : Array Value → State → Outcome → State → Prop) (XC : String → State → State → Prop) (mc ms : Nat) (free : Addr → Prop) : Array Value → State → Outcome → State → Prop := fun a st o t =>
  (Qc a st o t ∧ ∃ L, FrameEnd st o t L mc ms ∧ ∀ q ∈ L, free q.base) ∨ ∃ q, o = .threw q ∧ vx_T XC st q t mc ms free
/-- a callee that returns or throws -/
def vx_Met (l : Launch) (y : MethodName) (ws : List Cond) (rm : Room) (Pc : Array Value → State → Prop) (Qc : Array Value → State → Outcome → State → Prop) (XC : String → State → State → Prop) (mc ms : Nat) (free : Addr → Prop) : Prop :=
  MetFree l y (headSpec ws rm) Pc (fun _ _ _ _ _ => True) (vx_Q Qc XC mc ms free)
def vx_Post (XC : String → State → State → Prop) (mc ms : Nat) (free : Addr → Prop) : Pt → Array Value → Addr → Pt → Prop := fun A a q B =>
  ∃ (g : JFrame) (mk : MethodId) (t : State) (L : List Loc) (E : String) (ce : Cell), B.U.heap = t.heap ∧ B.U.vm = t.vm ∧ XC E (A.U.calling g mk a) t ∧ t.heap[q]? = some ce ∧ ce.vm = .none ∧ A.U.vm.findClass E = some ce.cls ∧ B.locs = A.locs ++ L ∧ (∀ z ∈ L, free z.base) ∧ B.cells = A.cells + mc ∧ B.slots = A.slots + ms
def vx_Back (l : Launch) (R : Room) (p : Program) (e : Env) (below : List Frame) (s : State) (sargs : Array Value) (y : MethodName) (len W9 : Nat)
    (Pre : Pt → Array Value → Prop) (Post : Pt → Array Value → Option Value → Pt → Prop) (PostX : Pt → Array Value → Addr → Pt → Prop) : Prop :=
  ∀ (m : MethodId) (meth : Method) (c : Code) (A : Pt) (g : JFrame) (ig : Instr) (mk : MethodId) (a : Array Value),
    Stand p l e R s m sargs below meth c A.U A.locs A.cells A.slots → g.method = m → g.locals.size = c.maxLocals → decode c.code g.pc = .ok (ig, len) →
    2 * g.monitorRoom + (g.stack.map fun v => v.category).sum ≤ W9 → A.U.methodNamed? y = some mk → Pre A a →
    (∃ (v : Option Value) (B : Pt), Stand p l e R s m sargs below meth c B.U B.locs B.cells B.slots ∧ Post A a v B ∧
      Steps p.tables e below (doInvoke e (A.U.setTop g) [] mk a).1 (B.U.setTop { g with pc := g.pc + len, stack := v.toList ++ g.stack })) ∨
    (∃ (q : Addr) (B : Pt), Stand p l e R s m sargs below meth c B.U B.locs B.cells B.slots ∧ PostX A a q B ∧
      Steps p.tables e below (doInvoke e (A.U.setTop g) [] mk a).1 ((B.U.setTop g).pushFrame (.throwing q)))
section Payer
variable {l : Launch} {R : Room} {p : Program} {e : Env} {below : List Frame} {s : State} {sargs : Array Value} {y : MethodName} {len W9 : Nat}
theorem vx_back {ws : List Cond} {rm : Room} {Pc : Array Value → State → Prop} {Qc : Array Value → State → Outcome → State → Prop} {XC : String → State → State → Prop} {mc ms : Nat} {free : Addr → Prop} {bytes : ByteArray} {maxL : Nat} {ret : Option FieldType}
    (hM : vx_Met l y ws rm Pc Qc XC mc ms free) (hblind : FrameBlind Pc) (hrc : rm.cells = mc) (hrs : rm.slots = ms)
    (hframes : rm.frames + 1 ≤ R.frames) (hlocals : W9 + (maxL + 11) + rm.locals ≤ R.locals)
    (hws : ∀ w ∈ ws, ∀ a' U, s.WarmedH U.vm → w.before a' U = true) (hcode : Cond.code y bytes maxL ret ∈ ws) (hinit : ∀ a' U, s.WarmedH U.vm → (Cond.initialized y.cls).before a' U = true) :
    vx_Back l R p e below s sargs y len W9 (PreOf R mc ms Pc) (PostOf Qc mc ms free) (vx_Post XC mc ms free) := by
  intro m meth c A g ig mk a X hg hsize hdg hW hn hp
  have h1 : (headSpec ws rm).pre.before a A.U = true := atoms_intro fun w hw => hws w hw _ _ X.warmed
  have h2 : (Cond.code y bytes maxL ret).before a A.U = true := hws _ hcode _ _ X.warmed
  have h3 : (Cond.initialized y.cls).before a A.U = true := hinit _ _ X.warmed
  have h4 : A.cells + (headSpec ws rm).room.cells ≤ R.cells := by rw [show (headSpec ws rm).room.cells = mc from hrc]; exact hp.1
  have h5 : A.slots + (headSpec ws rm).room.slots ≤ R.slots := by rw [show (headSpec ws rm).room.slots = ms from hrs]; exact hp.2.1
  have hPc : Pc a (A.U.calling g mk a) := hblind _ _ _ _ hp.2.2
  obtain ⟨U, Ls, c0, s0⟩ := A
  dsimp only [Pt.U, Pt.locs, Pt.cells, Pt.slots] at h1 h2 h3 h4 h5 X hn hPc ⊢
  obtain ⟨methY, cY, hmY, hcY, -, hlY, -, -, -, -⟩ := Cond.code_spec hn h2
  obtain ⟨kY, hkY, -⟩ := className_of_methodNamed hn
  have hinitY : kY.init = .initialized := Cond.initialized_spec (findClass_of_methodNamed hn) hkY h3
  have h : At U g.method c below := by rw [hg]; exact X.here
  have hlocals9 : W9 + (maxL + 11) + (headSpec ws rm).room.locals ≤ R.locals := hlocals
  have happ : (headSpec ws rm).appliesLoose y e.platform (U.calling g mk a) = true :=
    Spec.appliesLoose_calling (g := g) h hdg hn hkY hinitY
      (X.room_calling (g := g) (R' := (headSpec ws rm).room) hsize hmY hcY hframes (by rw [hlY]; omega) h4 h5) h1
  obtain ⟨mid, hmid⟩ := h.above
  have hfr : (U.setTop g).frames = (.java g :: mid) ++ below := by rw [State.frames_setTop' g h.top, hmid]; rfl
  obtain ⟨o, s₂, hsteps, -, hend, hq⟩ := Steps.callFree hM p X.admits X.cas X.clock (acts := []) hfr happ hPc trivial
  have hq' : vx_Q Qc XC mc ms free a (U.calling g mk a) o s₂ := hq
  rw [State.frames_setTop' g h.top] at hend
  obtain ⟨g₀, hg0⟩ := Option.isSome_iff_exists.mp h.top
  obtain ⟨r, hr⟩ := State.topJava?_eq_some.mp hg0
  have hr' : (({ U with heap := s₂.heap, slotsUsed := s₂.slotsUsed } : State).setVm s₂.vm).frames = .java g₀ :: r := hr
  rcases hq' with ⟨hqc, L, hfe, hL⟩ | ⟨q, rfl, E, ce, L, hx, hce, hcv, hcl, hW₂, hsm, hL⟩
  · obtain ⟨⟨v, rfl⟩, hW₂, e2, q2, q3, q4, q5, q6⟩ := id hfe
    have e3 : s₂ = ({ (U.calling g mk a).setFrames s₂.frames with heap := s₂.heap, slotsUsed := s₂.slotsUsed } : State).setVm s₂.vm := by
      have : s₂ = ({ s₂ with vm := (U.calling g mk a).vm } : State).setVm s₂.vm := rfl
      rw [e2] at this
      exact this
    obtain ⟨c₂, i₂, len₂, hc₂, hd₂, hf₂⟩ := hend
    have hW' : U.WarmedH s₂.vm := hW₂
    have hcc : c₂ = c := by
      have h1 : s₂.code? g.method = U.code? g.method := by
        rw [State.code?_eq, State.code?_eq, hW'.alike.method?]
      exact Option.some.inj (hc₂.symm.trans (h1.trans h.code))
    subst hcc
    have hlen : len₂ = len := by rw [hdg] at hd₂; cases hd₂; rfl
    subst hlen
    have hs₂ : s₂ = (({ U with heap := s₂.heap, slotsUsed := s₂.slotsUsed } : State).setVm s₂.vm).setTop { g with pc := g.pc + len₂, stack := v.toList ++ g.stack } := by
      refine e3.trans ?_
      rw [hf₂, State.calling_eq h.top, State.setFrames_setFrames, State.setTop_of_frames _ hr', hr]
      rfl
    have hsame : U.sameButNew ({ U with heap := s₂.heap, slotsUsed := s₂.slotsUsed } : State) L mc ms := by
      refine ⟨?_, q2, q3, q4, q5, q6⟩
      obtain ⟨t, ht, -⟩ := State.frames_cons hr
      show ({ U with heap := s₂.heap, slotsUsed := s₂.slotsUsed } : State) = { U.setFrames U.frames with heap := s₂.heap, slotsUsed := s₂.slotsUsed }
      rw [State.setFrames_self ht]
    subst hg
    refine Or.inl ⟨v, ⟨(({ U with heap := s₂.heap, slotsUsed := s₂.slotsUsed } : State).setVm s₂.vm), Ls ++ L, c0 + mc, s0 + ms⟩,
      ⟨X.admits, X.cas, X.clock, X.frames, X.room, X.hears, X.method, X.code, (X.here.setHeapUsed s₂.heap s₂.slotsUsed).setVm hW'.alike, X.tail, State.WarmedH.trans X.warmed hW', X.limits, X.bytes, X.same.trans (hsame.setVm s.vm)⟩,
      ⟨g, mk, s₂, L, rfl, rfl, hqc, rfl, hL, rfl, rfl⟩, ?_⟩
    show Steps p.tables e below _ ((({ U with heap := s₂.heap, slotsUsed := s₂.slotsUsed } : State).setVm s₂.vm).setTop { g with pc := g.pc + len₂, stack := v.toList ++ g.stack })
    rw [← hs₂]
    exact hsteps
  · obtain ⟨e2, q2, q3, q4, q5, q6⟩ := id hsm
    have e3 : s₂ = ({ (U.calling g mk a).setFrames s₂.frames with heap := s₂.heap, slotsUsed := s₂.slotsUsed } : State).setVm s₂.vm := by
      have : s₂ = ({ s₂ with vm := (U.calling g mk a).vm } : State).setVm s₂.vm := rfl
      rw [e2] at this
      exact this
    have hf₂ : s₂.frames = .throwing q :: .java g :: U.frames.tail := hend
    have hW' : U.WarmedH s₂.vm := hW₂
    have hs₂ : s₂ = ((({ U with heap := s₂.heap, slotsUsed := s₂.slotsUsed } : State).setVm s₂.vm).setTop g).pushFrame (.throwing q) := by
      refine e3.trans ?_
      rw [hf₂, State.calling_eq h.top, State.setFrames_setFrames, State.pushFrame, State.frames_setTop _ hr', State.setTop_of_frames _ hr', State.setFrames_setFrames, hr]
      rfl
    have hsame : U.sameButNew ({ U with heap := s₂.heap, slotsUsed := s₂.slotsUsed } : State) L mc ms := by
      refine ⟨?_, q2, q3, q4, q5, q6⟩
      obtain ⟨t, ht, -⟩ := State.frames_cons hr
      show ({ U with heap := s₂.heap, slotsUsed := s₂.slotsUsed } : State) = { U.setFrames U.frames with heap := s₂.heap, slotsUsed := s₂.slotsUsed }
      rw [State.setFrames_self ht]
    subst hg
    refine Or.inr ⟨q, ⟨(({ U with heap := s₂.heap, slotsUsed := s₂.slotsUsed } : State).setVm s₂.vm), Ls ++ L, c0 + mc, s0 + ms⟩,
      ⟨X.admits, X.cas, X.clock, X.frames, X.room, X.hears, X.method, X.code, (X.here.setHeapUsed s₂.heap s₂.slotsUsed).setVm hW'.alike, X.tail, State.WarmedH.trans X.warmed hW', X.limits, X.bytes, X.same.trans (hsame.setVm s.vm)⟩,
      ⟨g, mk, s₂, L, E, ce, rfl, rfl, hx, hce, hcv, hcl, rfl, hL, rfl, rfl⟩, ?_⟩
    show Steps p.tables e below _ (((({ U with heap := s₂.heap, slotsUsed := s₂.slotsUsed } : State).setVm s₂.vm).setTop g).pushFrame (.throwing q))
    rw [← hs₂]
    exact hsteps
end Payer
section Calls
variable {p : Program} {l : Launch} {e : Env} {R : Room} {s : State} {m : MethodId} {args : Array Value} {below : List Frame} {meth : Method} {c : Code} {T : State} {locs : List Loc} {cells slots : Nat}
theorem vx_callV (X : Stand p l e R s m args below meth c T locs cells slots) (hexec : p.tables.exec = Jvm.exec) {own C : String} {index : Nat} {y : MethodName} {bytes : ByteArray} {maxL : Nat} {ret : Option FieldType}
    (hown : s.vm.findClass own = some m.cls) (hlink : (Cond.methodLink own index y).before args s = true) (hinst : (Cond.instanceMethod y).before args s = true) (hsel : (Cond.selects C y y).before args s = true)
    (hcode : (Cond.code y bytes maxL ret).before args s = true) (hy : y.cls ≠ "java/lang/invoke/MethodHandle" ∧ y.cls ≠ "java/lang/invoke/VarHandle")
    {W9 : Nat} {Pre : Pt → Array Value → Prop} {Post : Pt → Array Value → Option Value → Pt → Prop} {PostX : Pt → Array Value → Addr → Pt → Prop} (hK : vx_Back l R p e below s args y 3 W9 Pre Post PostX)
    {b : Addr} {cellB : Cell} (hcell : T.heap[b]? = some cellB) (hobj : cellB.vm.isStatics = false) (hcls : s.vm.findClass C = some cellB.cls)
    {g : JFrame} (hg : g.method = m) (hsize : g.locals.size = c.maxLocals) {argsL rest : List Value} (hlen : ∀ sig, parseMethodDescriptor y.desc = some sig → argsL.length = sig.parameters.length)
    (hstack : g.stack = argsL.reverse ++ .ref b :: rest) (hW : 2 * g.monitorRoom + (rest.map fun v => v.category).sum ≤ W9) (hdg : decode c.code g.pc = .ok (.invokevirtual index, 3))
    (hpre : ∀ vm₁, s.WarmedH vm₁ → Pre ⟨T.setVm vm₁, locs, cells, slots⟩ (Value.ref b :: argsL).toArray) :
    (∃ (v : Option Value) (vm₁ : Vm) (B : Pt), s.WarmedH vm₁ ∧ Stand p l e R s m args below meth c B.U B.locs B.cells B.slots ∧ Post ⟨T.setVm vm₁, locs, cells, slots⟩ (Value.ref b :: argsL).toArray v B ∧
      ∀ target, Steps p.tables e below (B.U.setTop { g with pc := g.pc + 3, stack := v.toList ++ rest }) target → Steps p.tables e below (T.setTop g) target) ∨
    (∃ (q : Addr) (vm₁ : Vm) (B : Pt), s.WarmedH vm₁ ∧ Stand p l e R s m args below meth c B.U B.locs B.cells B.slots ∧ PostX ⟨T.setVm vm₁, locs, cells, slots⟩ (Value.ref b :: argsL).toArray q B ∧
      Steps p.tables e below (T.setTop g) ((B.U.setTop { g with stack := rest }).pushFrame (.throwing q))) := by
  obtain ⟨mk, methM, hnamed, hmethM, hstM, habM⟩ := Cond.instanceMethod_spec hinst
  obtain ⟨methM', cM, hmethM', -, -, -, -, -, -, hsigM⟩ := Cond.code_spec hnamed hcode
  cases hmethM.symm.trans hmethM'
  obtain ⟨c2, r2, m2, q1, q2, q3, q4, kP, hkP, hkPi⟩ := Cond.selects_spec hsel
  cases hcls.symm.trans q1
  cases (State.methodFound?_of_named hnamed hy).symm.trans q2
  cases hnamed.symm.trans q3
  have hselP : selectMethod e.platform s.vm cellB.cls mk = .method mk := by rw [Launch.admits_selectMethod X.admits]; exact q4
  obtain ⟨vm₁, X₁, hstep₁⟩ := X.invokevirtual hexec hown hlink hnamed hmethM hstM hkP hkPi hy (a := b) (cell := cellB) hcell
    (fun z h => by rw [h] at hobj; cases hobj) hselP hmethM habM hkP hkPi (g := g) hg (argsL := argsL) (rest := rest) (hlen _ hsigM) hstack hdg
  rcases hK m meth c ⟨T.setVm vm₁, locs, cells, slots⟩ { g with stack := rest } (.invokevirtual index) mk (Value.ref b :: argsL).toArray X₁ hg hsize hdg hW (X₁.named hnamed) (hpre vm₁ X₁.warmed) with ⟨v, B, X', hpost, hsteps⟩ | ⟨q, B, X', hpost, hsteps⟩
  · exact Or.inl ⟨v, vm₁, B, X₁.warmed, X', hpost, fun target h => hstep₁ _ fun acts => by rw [doInvoke_state]; exact hsteps.trans h⟩
  · exact Or.inr ⟨q, vm₁, B, X₁.warmed, X', hpost, hstep₁ _ fun acts => by rw [doInvoke_state]; exact hsteps⟩
theorem vx_callS (X : Stand p l e R s m args below meth c T locs cells slots) (hexec : p.tables.exec = Jvm.exec) {own : String} {index : Nat} {y : MethodName} {bytes : ByteArray} {maxL : Nat} {ret : Option FieldType}
    (hown : s.vm.findClass own = some m.cls) (hlink : (Cond.methodLink own index y).before args s = true) (hstat : (Cond.static y).before args s = true) (hinit : (Cond.initialized y.cls).before args s = true)
    (hcode : (Cond.code y bytes maxL ret).before args s = true) (hy : y.cls ≠ "java/lang/invoke/MethodHandle" ∧ y.cls ≠ "java/lang/invoke/VarHandle")
    {W9 : Nat} {Pre : Pt → Array Value → Prop} {Post : Pt → Array Value → Option Value → Pt → Prop} {PostX : Pt → Array Value → Addr → Pt → Prop} (hK : vx_Back l R p e below s args y 3 W9 Pre Post PostX)
    {g : JFrame} (hg : g.method = m) (hsize : g.locals.size = c.maxLocals) {argsL rest : List Value} (hlen : ∀ sig, parseMethodDescriptor y.desc = some sig → argsL.length = sig.parameters.length)
    (hstack : g.stack = argsL.reverse ++ rest) (hW : 2 * g.monitorRoom + (rest.map fun v => v.category).sum ≤ W9) (hdg : decode c.code g.pc = .ok (.invokestatic index, 3))
    (hpre : ∀ vm₁, s.WarmedH vm₁ → Pre ⟨T.setVm vm₁, locs, cells, slots⟩ argsL.toArray) :
    (∃ (v : Option Value) (vm₁ : Vm) (B : Pt), s.WarmedH vm₁ ∧ Stand p l e R s m args below meth c B.U B.locs B.cells B.slots ∧ Post ⟨T.setVm vm₁, locs, cells, slots⟩ argsL.toArray v B ∧
      ∀ target, Steps p.tables e below (B.U.setTop { g with pc := g.pc + 3, stack := v.toList ++ rest }) target → Steps p.tables e below (T.setTop g) target) ∨
    (∃ (q : Addr) (vm₁ : Vm) (B : Pt), s.WarmedH vm₁ ∧ Stand p l e R s m args below meth c B.U B.locs B.cells B.slots ∧ PostX ⟨T.setVm vm₁, locs, cells, slots⟩ argsL.toArray q B ∧
      Steps p.tables e below (T.setTop g) ((B.U.setTop { g with stack := rest }).pushFrame (.throwing q))) := by
  obtain ⟨mk, hnamed⟩ := Cond.code_named hcode
  obtain ⟨methM, cM, hmethM, -, -, -, -, -, -, hsigM⟩ := Cond.code_spec hnamed hcode
  have hstatic : methM.isStatic = true := Cond.static_spec hnamed hmethM hstat
  obtain ⟨kP, hkP, -⟩ := className_of_methodNamed hnamed
  have hinitP : kP.init = .initialized := Cond.initialized_spec (findClass_of_methodNamed hnamed) hkP hinit
  obtain ⟨vm₁, X₁, hstep₁⟩ := X.invokestatic hexec hown hlink hnamed hmethM hstatic hkP hinitP hy (g := g) hg (argsL := argsL) (rest := rest) (hlen _ hsigM) hstack hdg
  rcases hK m meth c ⟨T.setVm vm₁, locs, cells, slots⟩ { g with stack := rest } (.invokestatic index) mk argsL.toArray X₁ hg hsize hdg hW (X₁.named hnamed) (hpre vm₁ X₁.warmed) with ⟨v, B, X', hpost, hsteps⟩ | ⟨q, B, X', hpost, hsteps⟩
  · exact Or.inl ⟨v, vm₁, B, X₁.warmed, X', hpost, fun target h => hstep₁ _ fun acts => by rw [doInvoke_state]; exact hsteps.trans h⟩
  · exact Or.inr ⟨q, vm₁, B, X₁.warmed, X', hpost, hstep₁ _ fun acts => by rw [doInvoke_state]; exact hsteps⟩
end Calls
theorem vx_cls {s : State} {T : State} {vm₁ : Vm} {E : String} {k : ClassId} (hW : s.WarmedH vm₁) (h : (T.setVm vm₁).vm.findClass E = some k) : s.vm.findClass E = some k := by
  have h1 : vm₁.findClass E = some k := h
  rw [hW.alike.findClass] at h1
  exact h1
/-- the method's frame g, with q thrown over it -/
def vx_W (p : Program) (l : Launch) (e : Env) (R : Room) (s : State) (m : MethodId) (args : Array Value) (below : List Frame) (meth : Method) (c : Code) (H : Heap) (locs : List Loc) (cells slots : Nat) (Q : State → Prop) (g : JFrame) (q : Addr) : Prop :=
  ∀ T : State, T.heap = H → Stand p l e R s m args below meth c T locs cells slots → ∃ t, Steps p.tables e below ((T.setTop g).pushFrame (.throwing q)) t ∧ Q t
def vx_Run (p : Program) (l : Launch) (e : Env) (R : Room) (s : State) (m : MethodId) (args : Array Value) (below : List Frame) (meth : Method) (c : Code) (H : Heap) (locs : List Loc) (cells slots mc ms : Nat) (g : JFrame) (rest : List Value) (Qa : State → Outcome → State → Prop) (XC : String → State → State → Prop) (free : Addr → Prop) : Prop :=
  ∀ T : State, T.heap = H → Stand p l e R s m args below meth c T locs cells slots →
    (∃ (v : Option Value) (st₀ t T' : State) (L : List Loc), st₀.heap = H ∧ Stand p l e R s m args below meth c T' (locs ++ L) (cells + mc) (slots + ms) ∧ (∀ q ∈ L, free q.base) ∧ T'.heap = t.heap ∧ T'.vm = t.vm ∧ Qa st₀ (.returned v) t ∧
      Goes p e below T g T' { g with pc := g.pc + 3, stack := v.toList ++ rest }) ∨
    (∃ (q : Addr) (st₀ t T' : State) (L : List Loc) (E : String) (ce : Cell), st₀.heap = H ∧ Stand p l e R s m args below meth c T' (locs ++ L) (cells + mc) (slots + ms) ∧ (∀ z ∈ L, free z.base) ∧ T'.heap = t.heap ∧ T'.vm = t.vm ∧ XC E st₀ t ∧ t.heap[q]? = some ce ∧ ce.vm = .none ∧ s.vm.findClass E = some ce.cls ∧
      Steps p.tables e below (T.setTop g) ((T'.setTop { g with stack := rest }).pushFrame (.throwing q)))
def vx_X {S : Type} (px : S → Prop) (B : String → S → State → Prop) (A : Nat → Prop) : String → State → State → Prop := fun E st t => ∃ u : S, px u ∧ B E u t ∧ va_F A st t
section Runs
variable {p : Program} {l : Launch} {e : Env} {R : Room} {s : State} {m : MethodId} {args : Array Value} {below : List Frame} {meth : Method} {c : Code} {H : Heap} {locs : List Loc} {cells slots : Nat}
variable {y : MethodName} {bytes cc : ByteArray} {maxL nL mc ms n index : Nat} {ret : Option FieldType} {ws : List Cond} {rm : Room} {Pc : Array Value → State → Prop} {Qc : Array Value → State → Outcome → State → Prop} {XC : String → State → State → Prop} {free : Addr → Prop} {Ts : List Cond} {own C : String} {b : Addr} {As rest : List Value} {g : JFrame}
theorem vx_callBack (cb : CallB R s args own index y bytes maxL ret ws rm mc ms n) (hM : vx_Met l y ws rm Pc Qc XC mc ms free) (hbl : FrameBlind Pc) : vx_Back l R p e below s args y 3 8 (PreOf R mc ms Pc) (PostOf Qc mc ms free) (vx_Post XC mc ms free) := by
  obtain ⟨hrc, hrs, hfr, hlo, hws, hcw, -, hini, -⟩ := cb
  exact vx_back (bytes := bytes) (maxL := maxL) (ret := ret) hM hbl hrc hrs hfr hlo hws hcw (fun a' U hW => word_at hW (Or.inl (by first | rfl | simp [Cond.onTables, Cond.keeps, Cond.steady])) hini)
theorem vx_runV (S : CallFix p m c cc nL s args Ts own) (hM : vx_Met l y ws rm Pc Qc XC mc ms free) (cw : CallW R s args own C index y bytes maxL ret ws rm mc ms n) (hp : PreV s H C b Pc As)
    (hg : g.method = m) (hn : As.length = n) (hsize : g.locals.size = nL) (hstack : g.stack = As.reverse ++ .ref b :: rest) (hW : 2 * g.monitorRoom + (rest.map fun v => v.category).sum ≤ 8) (hdg : decode cc g.pc = .ok (.invokevirtual index, 3)) (hf : cells + mc ≤ R.cells ∧ slots + ms ≤ R.slots) :
    vx_Run p l e R s m args below meth c H locs cells slots mc ms g rest (Qc (Value.ref b :: As).toArray) XC free := by
  have hK : vx_Back l R p e below s args y 3 8 (PreOf R mc ms Pc) (PostOf Qc mc ms free) (vx_Post XC mc ms free) := vx_callBack cw.1 hM hp.1
  obtain ⟨⟨-, -, -, -, -, -, hcode, -, hy, hlen, hl⟩, hin, hse⟩ := cw
  obtain ⟨hx, hb, hml, ho, -⟩ := S
  obtain ⟨-, ⟨cellB, hcB, hoB, hclB⟩, hPc⟩ := hp
  intro T hT X
  rcases vx_callV X hx (C := C) (bytes := bytes) (maxL := maxL) (ret := ret) ho hl hin hse hcode hy hK (by rw [hT]; exact hcB) hoB hclB hg (hsize.trans hml.symm) (argsL := As) (rest := rest) (fun sig h => hn.trans (hlen sig h)) hstack hW (by rw [hb]; exact hdg)
    (fun vm₁ hW₁ => ⟨hf.1, hf.2, hPc (T.setVm vm₁) hT hW₁⟩) with ⟨v, vm₁, ⟨U', l2, c2, s2⟩, hW₁, X', ⟨g', mk, t, L, e1, e2, hq, h1, hL, h2, h3⟩, st⟩ | ⟨q, vm₁, ⟨U', l2, c2, s2⟩, hW₁, X', ⟨g', mk, t, L, E, ce, e1, e2, hq, hce, hcv, hcl, h1, hL, h2, h3⟩, st⟩
  · dsimp only [Pt.U, Pt.locs, Pt.cells, Pt.slots] at X' e1 e2 h1 h2 h3 st
    subst h1; subst h2; subst h3
    exact Or.inl ⟨v, (T.setVm vm₁).calling g' mk (Value.ref b :: As).toArray, t, U', L, hT, X', hL, e1, e2, hq, st⟩
  · dsimp only [Pt.U, Pt.locs, Pt.cells, Pt.slots] at X' e1 e2 h1 h2 h3 st hcl
    subst h1; subst h2; subst h3
    exact Or.inr ⟨q, (T.setVm vm₁).calling g' mk (Value.ref b :: As).toArray, t, U', L, E, ce, hT, X', hL, e1, e2, hq, hce, hcv, vx_cls hW₁ hcl, st⟩
theorem vx_runS (S : CallFix p m c cc nL s args Ts own) (hM : vx_Met l y ws rm Pc Qc XC mc ms free) (cw : CallB R s args own index y bytes maxL ret ws rm mc ms n ∧ (Cond.static y).before args s = true) (hp : PreS s H Pc As)
    (hg : g.method = m) (hn : As.length = n) (hsize : g.locals.size = nL) (hstack : g.stack = As.reverse ++ rest) (hW : 2 * g.monitorRoom + (rest.map fun v => v.category).sum ≤ 8) (hdg : decode cc g.pc = .ok (.invokestatic index, 3)) (hf : cells + mc ≤ R.cells ∧ slots + ms ≤ R.slots) :
    vx_Run p l e R s m args below meth c H locs cells slots mc ms g rest (Qc As.toArray) XC free := by
  have hK : vx_Back l R p e below s args y 3 8 (PreOf R mc ms Pc) (PostOf Qc mc ms free) (vx_Post XC mc ms free) := vx_callBack cw.1 hM hp.1
  obtain ⟨⟨-, -, -, -, -, -, hcode, hini, hy, hlen, hl⟩, hstt⟩ := cw
  obtain ⟨hx, hb, hml, ho, -⟩ := S
  intro T hT X
  rcases vx_callS X hx (bytes := bytes) (maxL := maxL) (ret := ret) ho hl hstt hini hcode hy hK hg (hsize.trans hml.symm) (argsL := As) (rest := rest) (fun sig h => hn.trans (hlen sig h)) hstack hW (by rw [hb]; exact hdg)
    (fun vm₁ hW₁ => ⟨hf.1, hf.2, hp.2 (T.setVm vm₁) hT hW₁⟩) with ⟨v, vm₁, ⟨U', l2, c2, s2⟩, hW₁, X', ⟨g', mk, t, L, e1, e2, hq, h1, hL, h2, h3⟩, st⟩ | ⟨q, vm₁, ⟨U', l2, c2, s2⟩, hW₁, X', ⟨g', mk, t, L, E, ce, e1, e2, hq, hce, hcv, hcl, h1, hL, h2, h3⟩, st⟩
  · dsimp only [Pt.U, Pt.locs, Pt.cells, Pt.slots] at X' e1 e2 h1 h2 h3 st
    subst h1; subst h2; subst h3
    exact Or.inl ⟨v, (T.setVm vm₁).calling g' mk As.toArray, t, U', L, hT, X', hL, e1, e2, hq, st⟩
  · dsimp only [Pt.U, Pt.locs, Pt.cells, Pt.slots] at X' e1 e2 h1 h2 h3 st hcl
    subst h1; subst h2; subst h3
    exact Or.inr ⟨q, (T.setVm vm₁).calling g' mk As.toArray, t, U', L, E, ce, hT, X', hL, e1, e2, hq, hce, hcv, vx_cls hW₁ hcl, st⟩
end Runs
section Rows
variable {p : Program} {l : Launch} {e : Env} {R : Room} {s : State} {m : MethodId} {args : Array Value} {below : List Frame} {meth : Method} {c : Code} {H : Heap} {locs : List Loc} {cells slots : Nat} {Q : State → Prop}
variable {mc ms : Nat} {free : Addr → Prop} {A0 A1 : Nat → Prop} {H0 : Heap} {a : Array Value} {pc : Nat} {ls : Array Slot} {st0 rest : List Value}
theorem vx_keep {st₀ t T' : State} {L : List Loc} (h0 : st₀.heap = H) (e1 : T'.heap = t.heap) (hS : va_S A0 H0 H locs) (hA : ∀ q, q < H.size → A1 q → A0 q) (hf : ∀ q, free q → A0 q) (hL : ∀ q ∈ L, free q.base) (hF : va_F A1 st₀ t) :
    H.size ≤ T'.heap.size ∧ (∀ q : Nat, q < H.size → ¬ A1 q → T'.heap[q]? = H[q]?) ∧ va_S A0 H0 T'.heap (locs ++ L) := by
  obtain ⟨hz, hk⟩ := hF
  rw [h0] at hz hk
  exact ⟨by rw [e1]; exact hz, fun q h1 h2 => by rw [e1]; exact hk q h1 h2,
    ⟨Nat.le_trans hS.1 (by rw [e1]; exact hz), fun q h1 h2 => by rw [e1, hk q (Nat.lt_of_lt_of_le h1 hS.1) (fun z => h2 (hA q (Nat.lt_of_lt_of_le h1 hS.1) z))]; exact hS.2.1 q h1 h2, fun q hq => by
      rcases List.mem_append.mp hq with h | h
      · exact hS.2.2 q h
      · exact hf _ (hL q h)⟩⟩
theorem vx_calli {S SX : Type} {post : Int32 → S → Prop} {px : SX → Prop} {B : S → State → Prop} {BX : String → SX → State → Prop} {AX : Nat → Prop} (hr : vx_Run p l e R s m args below meth c H locs cells slots mc ms (F0 m pc ls st0) rest (va_Qi post B A1 a) (vx_X px BX AX) free) (hS : va_S A0 H0 H locs) (hA : ∀ q, q < H.size → A1 q → A0 q) (hf : ∀ q, free q → A0 q) (hAX : ∀ q, q < H.size → AX q → A0 q)
    (kx : ∀ (E : String) (ce : Cell) (q9 : Addr) (u : SX) (t : State) (H1 : Heap) (locs1 : List Loc), t.heap = H1 → s.vm.Alike t.vm → px u → BX E u t → H.size ≤ H1.size → (∀ q : Nat, q < H.size → ¬ AX q → H1[q]? = H[q]?) → va_S A0 H0 H1 locs1 → H1[q9]? = some ce → ce.vm = .none → s.vm.findClass E = some ce.cls → vx_W p l e R s m args below meth c H1 locs1 (cells + mc) (slots + ms) Q (F0 m pc ls rest) q9)
    (kk : ∀ (r : Int32) (u : S) (t : State) (H1 : Heap) (locs1 : List Loc), t.heap = H1 → s.vm.Alike t.vm → post r u → B u t → H.size ≤ H1.size → (∀ q : Nat, q < H.size → ¬ A1 q → H1[q]? = H[q]?) → va_S A0 H0 H1 locs1 → W p l e R s m args below meth c H1 locs1 (cells + mc) (slots + ms) Q (F0 m (pc + 3) ls (.int r :: rest))) : W p l e R s m args below meth c H locs cells slots Q (F0 m pc ls st0) := by
  intro T hT X
  rcases hr T hT X with ⟨v, st₀, t, T', L, h0, X', hL, e1, e2, ⟨⟨r, u, hv, hp, hb⟩, hF⟩, st⟩ | ⟨q, st₀, t, T', L, E, ce, h0, X', hL, e1, e2, ⟨u, hp, hb, hF⟩, hce, hcv, hcl, st⟩
  · cases hv
    obtain ⟨k1, k2, k3⟩ := vx_keep h0 e1 hS hA hf hL hF
    obtain ⟨t2, a1, b1⟩ := kk r u t T'.heap (locs ++ L) e1.symm (by rw [← e2]; exact X'.warmed.alike) hp hb k1 k2 k3 T' rfl X'
    exact ⟨t2, st t2 a1, b1⟩
  · obtain ⟨k1, k2, k3⟩ := vx_keep h0 e1 hS hAX hf hL hF
    obtain ⟨t2, a1, b1⟩ := kx E ce q u t T'.heap (locs ++ L) e1.symm (by rw [← e2]; exact X'.warmed.alike) hp hb k1 k2 k3 (by rw [e1]; exact hce) hcv hcl T' rfl X'
    exact ⟨t2, st.trans a1, b1⟩
theorem vx_calll {S SX : Type} {post : Int64 → S → Prop} {px : SX → Prop} {B : S → State → Prop} {BX : String → SX → State → Prop} {AX : Nat → Prop} (hr : vx_Run p l e R s m args below meth c H locs cells slots mc ms (F0 m pc ls st0) rest (va_Ql post B A1 a) (vx_X px BX AX) free) (hS : va_S A0 H0 H locs) (hA : ∀ q, q < H.size → A1 q → A0 q) (hf : ∀ q, free q → A0 q) (hAX : ∀ q, q < H.size → AX q → A0 q)
    (kx : ∀ (E : String) (ce : Cell) (q9 : Addr) (u : SX) (t : State) (H1 : Heap) (locs1 : List Loc), t.heap = H1 → s.vm.Alike t.vm → px u → BX E u t → H.size ≤ H1.size → (∀ q : Nat, q < H.size → ¬ AX q → H1[q]? = H[q]?) → va_S A0 H0 H1 locs1 → H1[q9]? = some ce → ce.vm = .none → s.vm.findClass E = some ce.cls → vx_W p l e R s m args below meth c H1 locs1 (cells + mc) (slots + ms) Q (F0 m pc ls rest) q9)
    (kk : ∀ (r : Int64) (u : S) (t : State) (H1 : Heap) (locs1 : List Loc), t.heap = H1 → s.vm.Alike t.vm → post r u → B u t → H.size ≤ H1.size → (∀ q : Nat, q < H.size → ¬ A1 q → H1[q]? = H[q]?) → va_S A0 H0 H1 locs1 → W p l e R s m args below meth c H1 locs1 (cells + mc) (slots + ms) Q (F0 m (pc + 3) ls (.long r :: rest))) : W p l e R s m args below meth c H locs cells slots Q (F0 m pc ls st0) := by
  intro T hT X
  rcases hr T hT X with ⟨v, st₀, t, T', L, h0, X', hL, e1, e2, ⟨⟨r, u, hv, hp, hb⟩, hF⟩, st⟩ | ⟨q, st₀, t, T', L, E, ce, h0, X', hL, e1, e2, ⟨u, hp, hb, hF⟩, hce, hcv, hcl, st⟩
  · cases hv
    obtain ⟨k1, k2, k3⟩ := vx_keep h0 e1 hS hA hf hL hF
    obtain ⟨t2, a1, b1⟩ := kk r u t T'.heap (locs ++ L) e1.symm (by rw [← e2]; exact X'.warmed.alike) hp hb k1 k2 k3 T' rfl X'
    exact ⟨t2, st t2 a1, b1⟩
  · obtain ⟨k1, k2, k3⟩ := vx_keep h0 e1 hS hAX hf hL hF
    obtain ⟨t2, a1, b1⟩ := kx E ce q u t T'.heap (locs ++ L) e1.symm (by rw [← e2]; exact X'.warmed.alike) hp hb k1 k2 k3 (by rw [e1]; exact hce) hcv hcl T' rfl X'
    exact ⟨t2, st.trans a1, b1⟩
theorem vx_callf {S SX : Type} {post : UInt32 → S → Prop} {px : SX → Prop} {B : S → State → Prop} {BX : String → SX → State → Prop} {AX : Nat → Prop} (hr : vx_Run p l e R s m args below meth c H locs cells slots mc ms (F0 m pc ls st0) rest (va_Qf post B A1 a) (vx_X px BX AX) free) (hS : va_S A0 H0 H locs) (hA : ∀ q, q < H.size → A1 q → A0 q) (hf : ∀ q, free q → A0 q) (hAX : ∀ q, q < H.size → AX q → A0 q)
    (kx : ∀ (E : String) (ce : Cell) (q9 : Addr) (u : SX) (t : State) (H1 : Heap) (locs1 : List Loc), t.heap = H1 → s.vm.Alike t.vm → px u → BX E u t → H.size ≤ H1.size → (∀ q : Nat, q < H.size → ¬ AX q → H1[q]? = H[q]?) → va_S A0 H0 H1 locs1 → H1[q9]? = some ce → ce.vm = .none → s.vm.findClass E = some ce.cls → vx_W p l e R s m args below meth c H1 locs1 (cells + mc) (slots + ms) Q (F0 m pc ls rest) q9)
    (kk : ∀ (r : UInt32) (u : S) (t : State) (H1 : Heap) (locs1 : List Loc), t.heap = H1 → s.vm.Alike t.vm → post r u → B u t → H.size ≤ H1.size → (∀ q : Nat, q < H.size → ¬ A1 q → H1[q]? = H[q]?) → va_S A0 H0 H1 locs1 → W p l e R s m args below meth c H1 locs1 (cells + mc) (slots + ms) Q (F0 m (pc + 3) ls (.float r :: rest))) : W p l e R s m args below meth c H locs cells slots Q (F0 m pc ls st0) := by
  intro T hT X
  rcases hr T hT X with ⟨v, st₀, t, T', L, h0, X', hL, e1, e2, ⟨⟨r, u, hv, hp, hb⟩, hF⟩, st⟩ | ⟨q, st₀, t, T', L, E, ce, h0, X', hL, e1, e2, ⟨u, hp, hb, hF⟩, hce, hcv, hcl, st⟩
  · cases hv
    obtain ⟨k1, k2, k3⟩ := vx_keep h0 e1 hS hA hf hL hF
    obtain ⟨t2, a1, b1⟩ := kk r u t T'.heap (locs ++ L) e1.symm (by rw [← e2]; exact X'.warmed.alike) hp hb k1 k2 k3 T' rfl X'
    exact ⟨t2, st t2 a1, b1⟩
  · obtain ⟨k1, k2, k3⟩ := vx_keep h0 e1 hS hAX hf hL hF
    obtain ⟨t2, a1, b1⟩ := kx E ce q u t T'.heap (locs ++ L) e1.symm (by rw [← e2]; exact X'.warmed.alike) hp hb k1 k2 k3 (by rw [e1]; exact hce) hcv hcl T' rfl X'
    exact ⟨t2, st.trans a1, b1⟩
theorem vx_calld {S SX : Type} {post : UInt64 → S → Prop} {px : SX → Prop} {B : S → State → Prop} {BX : String → SX → State → Prop} {AX : Nat → Prop} (hr : vx_Run p l e R s m args below meth c H locs cells slots mc ms (F0 m pc ls st0) rest (va_Qd post B A1 a) (vx_X px BX AX) free) (hS : va_S A0 H0 H locs) (hA : ∀ q, q < H.size → A1 q → A0 q) (hf : ∀ q, free q → A0 q) (hAX : ∀ q, q < H.size → AX q → A0 q)
    (kx : ∀ (E : String) (ce : Cell) (q9 : Addr) (u : SX) (t : State) (H1 : Heap) (locs1 : List Loc), t.heap = H1 → s.vm.Alike t.vm → px u → BX E u t → H.size ≤ H1.size → (∀ q : Nat, q < H.size → ¬ AX q → H1[q]? = H[q]?) → va_S A0 H0 H1 locs1 → H1[q9]? = some ce → ce.vm = .none → s.vm.findClass E = some ce.cls → vx_W p l e R s m args below meth c H1 locs1 (cells + mc) (slots + ms) Q (F0 m pc ls rest) q9)
    (kk : ∀ (r : UInt64) (u : S) (t : State) (H1 : Heap) (locs1 : List Loc), t.heap = H1 → s.vm.Alike t.vm → post r u → B u t → H.size ≤ H1.size → (∀ q : Nat, q < H.size → ¬ A1 q → H1[q]? = H[q]?) → va_S A0 H0 H1 locs1 → W p l e R s m args below meth c H1 locs1 (cells + mc) (slots + ms) Q (F0 m (pc + 3) ls (.double r :: rest))) : W p l e R s m args below meth c H locs cells slots Q (F0 m pc ls st0) := by
  intro T hT X
  rcases hr T hT X with ⟨v, st₀, t, T', L, h0, X', hL, e1, e2, ⟨⟨r, u, hv, hp, hb⟩, hF⟩, st⟩ | ⟨q, st₀, t, T', L, E, ce, h0, X', hL, e1, e2, ⟨u, hp, hb, hF⟩, hce, hcv, hcl, st⟩
  · cases hv
    obtain ⟨k1, k2, k3⟩ := vx_keep h0 e1 hS hA hf hL hF
    obtain ⟨t2, a1, b1⟩ := kk r u t T'.heap (locs ++ L) e1.symm (by rw [← e2]; exact X'.warmed.alike) hp hb k1 k2 k3 T' rfl X'
    exact ⟨t2, st t2 a1, b1⟩
  · obtain ⟨k1, k2, k3⟩ := vx_keep h0 e1 hS hAX hf hL hF
    obtain ⟨t2, a1, b1⟩ := kx E ce q u t T'.heap (locs ++ L) e1.symm (by rw [← e2]; exact X'.warmed.alike) hp hb k1 k2 k3 (by rw [e1]; exact hce) hcv hcl T' rfl X'
    exact ⟨t2, st.trans a1, b1⟩
theorem vx_callv {S SX : Type} {post : S → Prop} {px : SX → Prop} {B : S → State → Prop} {BX : String → SX → State → Prop} {AX : Nat → Prop} (hr : vx_Run p l e R s m args below meth c H locs cells slots mc ms (F0 m pc ls st0) rest (va_Qv post B A1 a) (vx_X px BX AX) free) (hS : va_S A0 H0 H locs) (hA : ∀ q, q < H.size → A1 q → A0 q) (hf : ∀ q, free q → A0 q) (hAX : ∀ q, q < H.size → AX q → A0 q)
    (kx : ∀ (E : String) (ce : Cell) (q9 : Addr) (u : SX) (t : State) (H1 : Heap) (locs1 : List Loc), t.heap = H1 → s.vm.Alike t.vm → px u → BX E u t → H.size ≤ H1.size → (∀ q : Nat, q < H.size → ¬ AX q → H1[q]? = H[q]?) → va_S A0 H0 H1 locs1 → H1[q9]? = some ce → ce.vm = .none → s.vm.findClass E = some ce.cls → vx_W p l e R s m args below meth c H1 locs1 (cells + mc) (slots + ms) Q (F0 m pc ls rest) q9)
    (kk : ∀ (u : S) (t : State) (H1 : Heap) (locs1 : List Loc), t.heap = H1 → s.vm.Alike t.vm → post u → B u t → H.size ≤ H1.size → (∀ q : Nat, q < H.size → ¬ A1 q → H1[q]? = H[q]?) → va_S A0 H0 H1 locs1 → W p l e R s m args below meth c H1 locs1 (cells + mc) (slots + ms) Q (F0 m (pc + 3) ls (rest))) : W p l e R s m args below meth c H locs cells slots Q (F0 m pc ls st0) := by
  intro T hT X
  rcases hr T hT X with ⟨v, st₀, t, T', L, h0, X', hL, e1, e2, ⟨⟨u, hv, hp, hb⟩, hF⟩, st⟩ | ⟨q, st₀, t, T', L, E, ce, h0, X', hL, e1, e2, ⟨u, hp, hb, hF⟩, hce, hcv, hcl, st⟩
  · cases hv
    obtain ⟨k1, k2, k3⟩ := vx_keep h0 e1 hS hA hf hL hF
    obtain ⟨t2, a1, b1⟩ := kk u t T'.heap (locs ++ L) e1.symm (by rw [← e2]; exact X'.warmed.alike) hp hb k1 k2 k3 T' rfl X'
    exact ⟨t2, st t2 a1, b1⟩
  · obtain ⟨k1, k2, k3⟩ := vx_keep h0 e1 hS hAX hf hL hF
    obtain ⟨t2, a1, b1⟩ := kx E ce q u t T'.heap (locs ++ L) e1.symm (by rw [← e2]; exact X'.warmed.alike) hp hb k1 k2 k3 (by rw [e1]; exact hce) hcv hcl T' rfl X'
    exact ⟨t2, st.trans a1, b1⟩
/-- caught by the row x of this method's table; the rows ahead don't take it -/
theorem vx_catch {own name : String} {E : String} {ce : Cell} {q : Addr} (hown : s.vm.findClass own = some m.cls) (pre : List ExceptionTableEntry) (x : ExceptionTableEntry) (suf : List ExceptionTableEntry) (hsplit : c.exceptionTable.toList = pre ++ x :: suf)
    (hpass : ∀ z ∈ pre, covers z pc = false ∨ (z.catchType ≠ 0 ∧ ∃ nm : String, (Cond.classLink own z.catchType nm).before args s = true ∧ va_Nc E nm s)) (hx : covers x pc = true) (h0 : x.catchType ≠ 0)
    (hlink : (Cond.classLink own x.catchType name).before args s = true) (hcast : (Cond.castable E name).before args s = true) (hcell : H[q]? = some ce) (hv : ce.vm = .none) (hcl : s.vm.findClass E = some ce.cls)
    (kk : W p l e R s m args below meth c H locs cells slots Q (F0 m x.handlerPc ls [.ref q])) : vx_W p l e R s m args below meth c H locs cells slots Q (F0 m pc ls rest) q := by
  intro T hT X
  have hpl : e.platform.magicAccessors = ({} : Platform).magicAccessors := by rw [X.admits.platform]
  obtain ⟨c3, c4, hc3, hc4, hasg⟩ := Cond.castable_spec hcast
  cases Option.some.inj (hc3.symm.trans hcl)
  obtain ⟨c5, hc5, hcl5⟩ := Cond.classLink_spec hown hlink e.platform hpl
  cases Option.some.inj (hc4.symm.trans hc5)
  obtain ⟨vm', X', st⟩ := X.thenCaughtThrough q (g := F0 m pc ls rest) rfl (Steps.refl _) (by rw [hT]; exact hcell) (by rw [hv]; rfl) (by obtain ⟨k9, h9, -⟩ := Vm.findClass_spec hcl; exact ⟨k9, h9⟩) pre x suf hsplit
    (fun z hz => by
      rcases hpass z hz with h | ⟨hz0, nm, hl1, hn1⟩
      · exact Or.inl h
      · obtain ⟨c6, hc6, hcl6⟩ := Cond.classLink_spec hown hl1 e.platform hpl
        obtain ⟨a8, b8, h1, h2, h3⟩ := hn1
        cases Option.some.inj (h1.symm.trans hcl)
        cases Option.some.inj (h2.symm.trans hc6)
        exact Or.inr ⟨hz0, _, hcl6, h3⟩) hx (Or.inr ⟨h0, c4, hcl5, hasg⟩)
  obtain ⟨t, a1, b1⟩ := kk (T.setVm vm') hT X'
  exact ⟨t, st.trans a1, b1⟩
end Rows
section Ends
variable {p : Program} {l : Launch} {e : Env} {R : Room} {s : State} {m : MethodId} {args : Array Value} {below : List Frame} {meth : Method} {c : Code} {H : Heap} {locs : List Loc} {cells slots : Nat} {Q : State → Prop}
variable {mc ms : Nat} {free : Addr → Prop} {A0 A1 : Nat → Prop} {H0 : Heap} {a : Array Value} {ls : Array Slot} {st0 rest : List Value}
variable {Qc : Array Value → State → Outcome → State → Prop} {XC : String → State → State → Prop}
/-- what a body that may throw owes at its end -/
def vx_MQ (below : List Frame) (Qc : Array Value → State → Outcome → State → Prop) (XC : String → State → State → Prop) (a : Array Value) (s : State) (mc ms : Nat) (free : Addr → Prop) : State → Prop := fun t =>
  ∃ o, t.status = .running ∧ Ended t below o ∧ vx_Q Qc XC mc ms free a s o t
theorem vx_ret {g : JFrame} {mc ms : Nat} (k : W p l e R s m args below meth c H locs cells slots (MQ below Qc args s mc ms free) g) : W p l e R s m args below meth c H locs cells slots (vx_MQ below Qc XC args s mc ms free) g := by
  intro T hT X
  obtain ⟨t, a1, o, b1, b2, b3, b4⟩ := k T hT X
  exact ⟨t, a1, o, b1, b2, Or.inl ⟨b3, b4⟩⟩
/-- not caught here: it goes on to the caller -/
theorem vx_widen {g : JFrame} {q : Addr} {k n : Nat} (h1 : cells ≤ k) (h2 : slots ≤ n) (kk : vx_W p l e R s m args below meth c H locs k n Q g q) : vx_W p l e R s m args below meth c H locs cells slots Q g q := fun T hT X => kk T hT (stand_widen X h1 h2)
theorem vx_out {pc : Nat} {E : String} {ce : Cell} {q : Addr} {mc ms : Nat} (hout : ∀ x ∈ c.exceptionTable.toList, covers x pc = false) (hlocks : meth.locks = false) (hcell : H[q]? = some ce) (hv : ce.vm = .none) (hcl : s.vm.findClass E = some ce.cls)
    (hx : ∀ t : State, t.heap = H → s.vm.Alike t.vm → XC E s t) (hf : ∀ z ∈ locs, free z.base) (hc : cells ≤ mc) (hs : slots ≤ ms) :
    vx_W p l e R s m args below meth c H locs cells slots (vx_MQ below Qc XC args s mc ms free) (F0 m pc ls rest) q := by
  intro T hT X
  obtain ⟨st1, hrun, hend, hW, hsm⟩ := X.leaveThrown q (g := F0 m pc ls rest) rfl rfl rfl hout hlocks
  have hcell9 : (T.setFrames (.throwing q :: below)).heap[q]? = some ce := by
    show T.heap[q]? = some ce
    rw [hT]; exact hcell
  exact ⟨_, st1, .threw q, hrun, hend, Or.inr ⟨q, rfl, E, ce, locs, hx _ hT hW.alike, hcell9, hv, hcl, hW, hsm.mono hc hs, hf⟩⟩
theorem vx_frame {U : State} {k n : Nat} (h : s.sameButNew ({ U with vm := s.vm } : State) locs k n) : s.heap.size ≤ U.heap.size ∧ ∀ q : Nat, q < s.heap.size → (∀ z ∈ locs, z.base ≠ q) → U.heap[q]? = s.heap[q]? := by
  obtain ⟨-, h2, -, -, -, h6⟩ := h
  refine ⟨h2, fun q hq hz => ?_⟩
  obtain ⟨c9, e1, e2, e3, e4⟩ := h6 q _ (Array.getElem?_eq_getElem hq)
  have hs : c9.slots = (s.heap[q]).slots := Array.ext_getElem? fun i => e4 i fun hm => hz _ hm rfl
  have h9 : c9 = s.heap[q] := by
    rw [hs] at e2
    exact e2
  have e5 : U.heap[q]? = some c9 := e1
  rw [e5, h9, Array.getElem?_eq_getElem hq]
/-- the words of a throw but the four that speak of the heap -/
def vx_no (w : Cond) : Bool := decide (w ≠ .isRef (.static Bundle.tN "UNASSIGNED_STACK" Bundle.steD)) && decide (w ≠ .isRef (.static Bundle.tN "SUPPRESSED_SENTINEL" Bundle.listD)) && decide (w ≠ .laysStatic Bundle.tN "UNASSIGNED_STACK" Bundle.steD) && decide (w ≠ .laysStatic Bundle.tN "SUPPRESSED_SENTINEL" Bundle.listD)
def vx_at0 (own : String) (ic : Nat) (X : String) (names : List String) : List Cond := (Bundle.ownAtoms0 own ic X names).filter vx_no
def vx_atS (own : String) (ic : Nat) (X : String) (names : List String) : List Cond := (Bundle.ownAtoms own ic X names).filter vx_no
/-- a word that the tables alone decide, or a good one -/
def vx_ot (w : Cond) : Bool := w.onTables || goodWord w
theorem vx_ot_at {args a' : Array Value} {s U : State} {w : Cond} (hW : s.WarmedH U.vm) (hvm : s.vm = U.vm) (hg : vx_ot w = true) (h : w.before args s = true) : w.before a' U = true := by
  simp only [vx_ot, Bool.or_eq_true] at hg
  rcases hg with hg | hg
  · exact va_tabs hg hvm h
  · exact word_at hW (good_of_word hg) h
/-- a list's words: the good ones out of the method's own list, the others by premises of their own -/
theorem vx_hat {args : Array Value} {s : State} {L B : List Cond} (h1 : ∀ w ∈ L.filter goodWord, w.before args s = true) (h2 : ∀ w ∈ L.filter (fun w => !goodWord w), w ∈ B) (h3 : ∀ w ∈ B, w.before args s = true) : ∀ w ∈ L, w.before args s = true := by
  intro w hw
  by_cases g : goodWord w = true
  · exact h1 w (List.mem_filter.mpr ⟨hw, g⟩)
  · refine h3 w (h2 w (List.mem_filter.mpr ⟨hw, ?_⟩))
    show (!goodWord w) = true
    cases hgw : goodWord w
    · rfl
    · exact absurd hgw g
theorem vx_c {args : Array Value} {s : State} {w : Cond} {B : List Cond} (h : w.before args s = true) (t : ∀ w ∈ B, w.before args s = true) : ∀ w' ∈ w :: B, w'.before args s = true := fun w' h' => (List.mem_cons.mp h').elim (fun e => by rw [e]; exact h) (t w')
theorem vx_n {args : Array Value} {s : State} : ∀ w ∈ ([] : List Cond), w.before args s = true := fun _ h => nomatch h
theorem vx_own {args : Array Value} {s : State} {L : List Cond} (h1 : ∀ w ∈ L.filter vx_no, w.before args s = true)
    (hU : (Cond.isRef (.static Bundle.tN "UNASSIGNED_STACK" Bundle.steD)).before args s = true) (hN : (Cond.isRef (.static Bundle.tN "SUPPRESSED_SENTINEL" Bundle.listD)).before args s = true)
    (lU : (Cond.laysStatic Bundle.tN "UNASSIGNED_STACK" Bundle.steD).before args s = true) (lN : (Cond.laysStatic Bundle.tN "SUPPRESSED_SENTINEL" Bundle.listD).before args s = true) : ∀ w ∈ L, w.before args s = true := by
  intro w hw
  by_cases e1 : w = .isRef (.static Bundle.tN "UNASSIGNED_STACK" Bundle.steD)
  · rw [e1]; exact hU
  · by_cases e2 : w = .isRef (.static Bundle.tN "SUPPRESSED_SENTINEL" Bundle.listD)
    · rw [e2]; exact hN
    · by_cases e3 : w = .laysStatic Bundle.tN "UNASSIGNED_STACK" Bundle.steD
      · rw [e3]; exact lU
      · by_cases e4 : w = .laysStatic Bundle.tN "SUPPRESSED_SENTINEL" Bundle.listD
        · rw [e4]; exact lN
        · exact h1 w (List.mem_filter.mpr ⟨hw, by unfold vx_no; rw [decide_eq_true e1, decide_eq_true e2, decide_eq_true e3, decide_eq_true e4]; rfl⟩)
/-- where a static field lies, its class's statics cell in H -/
def vx_L (C n d : String) (A : Nat → Prop) (U : State) (H : Heap) : Prop := ∃ (c : ClassId) (k : Class) (i : Nat) (f : Field) (a : Nat) (cell : Cell), U.vm.findClass C = some c ∧ U.fieldFound? C n d = some (c, k, i, f) ∧ f.isStatic = true ∧ k.statics = some a ∧ H[a]? = some cell ∧ cell.vm.isStatics = true ∧ cell.cls = c ∧ f.slot < cell.slots.size ∧ k.staticTypes[f.slot]? = some f.type ∧ ¬ A a
theorem vx_L.moved {C n d : String} {A : Nat → Prop} {u U : State} {H : Heap} (hvm : u.vm.Alike U.vm) (h : vx_L C n d A u H) : vx_L C n d A U H := by
  obtain ⟨c, k, i, f, a, cell, h1, h2, h3, h4, h5, h6, h7, h8, h9, h10⟩ := h
  obtain ⟨k', hi', he⟩ := State.fieldFound?_setVm hvm h2
  exact ⟨c, k', i, f, a, cell, by rw [hvm.findClass]; exact h1, hi', h3, by rw [he]; exact h4, h5, h6, h7, h8, by rw [he]; exact h9, h10⟩
theorem vx_L.kept {C n d : String} {A : Nat → Prop} {U : State} {H H1 : Heap} (h : vx_L C n d A U H) (hq : ∀ a : Nat, a < H.size → ¬ A a → H1[a]? = H[a]?) : vx_L C n d A U H1 := by
  obtain ⟨c, k, i, f, a, cell, h1, h2, h3, h4, h5, h6, h7, h8, h9, h10⟩ := h
  exact ⟨c, k, i, f, a, cell, h1, h2, h3, h4, by rw [hq a (Array.getElem?_eq_some_iff.mp h5).1 h10]; exact h5, h6, h7, h8, h9, h10⟩
theorem vx_L.narrow {C n d : String} {A B : Nat → Prop} {U : State} {H : Heap} (h : vx_L C n d A U H) (hAB : ∀ q, B q → A q) : vx_L C n d B U H := by
  obtain ⟨c, k, i, f, a, cell, h1, h2, h3, h4, h5, h6, h7, h8, h9, h10⟩ := h
  exact ⟨c, k, i, f, a, cell, h1, h2, h3, h4, h5, h6, h7, h8, h9, fun z => h10 (hAB _ z)⟩
theorem vx_L.word {C n d : String} {A : Nat → Prop} {s : State} {args : Array Value} (h : vx_L C n d A s s.heap) : (Cond.laysStatic C n d).before args s = true := by
  obtain ⟨c, k, i, f, a, cell, h1, h2, h3, h4, h5, h6, h7, h8, h9, -⟩ := h
  show (Cond.laysStatic C n d).holds args s none s [] = true
  exact Cond.laysStatic_of h1 h2 h3 h4 h5 h6 h7 h8 h9
/-- .. and what it holds: null or some reference -/
def vx_Zq (C n d : String) (A : Nat → Prop) (U : State) (H : Heap) : Prop := va_Zq C n d A U H ∧ vx_L C n d A U H
theorem vx_Zq.moved {C n d : String} {A : Nat → Prop} {u U : State} {H : Heap} (hvm : u.vm.Alike U.vm) (h : vx_Zq C n d A u H) : vx_Zq C n d A U H := ⟨va_Zq.moved hvm h.1, vx_L.moved hvm h.2⟩
theorem vx_Zq.kept {C n d : String} {A : Nat → Prop} {U : State} {H H1 : Heap} (h : vx_Zq C n d A U H) (hq : ∀ a : Nat, a < H.size → ¬ A a → H1[a]? = H[a]?) : vx_Zq C n d A U H1 := ⟨va_Zq.kept h.1 hq, vx_L.kept h.2 hq⟩
theorem vx_Zq.narrow {C n d : String} {A B : Nat → Prop} {U : State} {H : Heap} (h : vx_Zq C n d A U H) (hAB : ∀ q, B q → A q) : vx_Zq C n d B U H := ⟨va_Zq.narrow h.1 hAB, vx_L.narrow h.2 hAB⟩
theorem vx_Zqof {args : Array Value} {s : State} {C n d : String} {A : Nat → Prop} (hl : (Cond.laysStatic C n d).before args s = true) (hini : (Cond.initialized C).before args s = true) (h : (Cond.isRef (.static C n d)).before args s = true) (hA : ∀ a : Nat, a < s.heap.size → ¬ A a) : vx_Zq C n d A s s.heap := by
  refine ⟨va_Zqof hl hini h hA, ?_⟩
  obtain ⟨c, k, i, f, a, cell, h1, h2, h3, h4, h5, h6, h7, h8, h9⟩ := Cond.laysStatic_spec hl
  exact ⟨c, k, i, f, a, cell, h1, h2, h3, h4, h5, h6, h7, h8, h9, hA a (Array.getElem?_eq_some_iff.mp h5).1⟩
theorem vx_isRef {C n d : String} {v : Value} {A : Nat → Prop} {s : State} {args : Array Value} (h : va_Z C n d v A s s.heap) (hv : v.isRef = true) : (Cond.isRef (.static C n d)).before args s = true := by
  obtain ⟨cf, kf, fi, f, a, cell, h1, h2, h3, h4, h5, h6, h7, -⟩ := h
  have he : (Term.static C n d).eval args s none [] s = some v := by
    simp [Term.eval, State.fieldNamed?, h1, h2, h4, h5, h6, h7]
  simp only [Cond.before, Cond.holds, Cond.value, he]
  cases v <;> simp_all [Value.isRef]
theorem vx_isRefq {C n d : String} {A : Nat → Prop} {s : State} {args : Array Value} (h : va_Zq C n d A s s.heap) : (Cond.isRef (.static C n d)).before args s = true := by
  rcases h with h | ⟨t, h⟩
  · exact vx_isRef h rfl
  · exact vx_isRef h rfl
/-- the same frame, seen from here: as if the method were called anew in this heap -/
theorem vx_rebase {T : State} (X : Stand p l e R s m args below meth c T locs cells slots) {R' : Room} (hf : R'.frames ≤ R.frames) (hl : R'.locals ≤ R.locals) (hc : cells + R'.cells ≤ R.cells) (hs : slots + R'.slots ≤ R.slots) :
    Stand p l e R' ((T.setVm s.vm).setFrames (.invoking m args :: below)) m args below meth c T [] 0 0 := by
  have htop : (T.setVm s.vm).topJava?.isSome := X.here.top
  have hF : ((T.setVm s.vm).setFrames (.invoking m args :: below)).frames = .invoking m args :: below := State.frames_setFrames _ (State.cur_lt_of_top htop)
  obtain ⟨g₀, hg0⟩ := Option.isSome_iff_exists.mp htop
  obtain ⟨r, hr⟩ := State.topJava?_eq_some.mp hg0
  have hl9 : e.platform.stackLimits (T.setVm s.vm).me = e.platform.stackLimits s.me := X.limits
  have hb9 : (T.setVm s.vm).me.stackBytes = s.me.stackBytes := X.bytes
  refine ⟨X.admits, X.cas, X.clock, hF, ?_, X.hears, X.method, X.code, X.here, X.tail, X.warmed, ?_, ?_, ?_⟩
  · have h := X.room
    have hU : ((T.setVm s.vm).setFrames (.invoking m args :: below)).localsInUse = s.localsInUse := by
      rw [State.localsInUse_invoking hF (meth := meth) (c := c) X.method X.code, State.localsInUse_invoking X.frames X.method X.code]
    simp only [State.hasRoom, Bool.and_eq_true, decide_eq_true_eq] at h ⊢
    obtain ⟨⟨⟨⟨h1, h2, h3, h4, h5, h6⟩, h7⟩, h8⟩, h9⟩ := h
    rw [X.frames, List.length_cons] at h2 h3
    have q1 := X.heapSize
    have q2 := X.used
    simp only [hF, hU, List.length_cons, State.stackLimits_setFrames, State.stackBytes_setFrames, hl9, hb9]
    refine ⟨⟨⟨⟨by omega, by omega, by omega, by omega, by omega, h6⟩, ?_⟩, ?_⟩, X.book⟩
    · show T.heap.size + R'.cells ≤ e.platform.maxCells
      omega
    · show T.slotsUsed + R'.slots ≤ e.platform.maxSlots
      omega
  · rw [State.stackLimits_setFrames]; rfl
  · rw [State.stackBytes_setFrames]; rfl
  · refine ⟨?_, Nat.le_refl _, Nat.le_refl _, ?_, ?_, fun a c9 h9 => ⟨c9, h9, rfl, rfl, fun _ _ => rfl⟩⟩
    · obtain ⟨t, ht, -⟩ := State.frames_cons hr
      show T.setVm s.vm = { ((T.setVm s.vm).setFrames (.invoking m args :: below)).setFrames (T.setVm s.vm).frames with heap := T.heap, slotsUsed := T.slotsUsed }
      rw [State.setFrames_setFrames, State.setFrames_self ht]
      rfl
    · show T.slotsUsed = T.slotsUsed + ((T.heap.toList.drop T.heap.size).map (·.slots.size)).sum
      rw [List.drop_eq_nil_of_le (Nat.le_of_eq Array.length_toList)]
      rfl
    · show ((T.heap.toList.drop T.heap.size).map (·.slots.size)).sum ≤ 0
      rw [List.drop_eq_nil_of_le (Nat.le_of_eq Array.length_toList)]
      exact Nat.le_refl _
/-- 'throw new E()': new; dup; invokespecial; athrow -/
theorem vx_throw0 {cc : ByteArray} {pc : Nat} (hexec : p.tables.exec = Jvm.exec) (hb : c.code = cc) (hl : l.stackTraces = false) {own cls : String} {names : List String} {ik ic mc ms : Nat} {A : Nat → Prop}
    (hown : s.vm.findClass own = some m.cls) (hcls : Bundle.fit cls = true) (hnames : ∀ n ∈ names, Bundle.fit n = true)
    (hk : (Cond.classLink own ik cls).before args s = true) (hini : (Cond.initialized cls).before args s = true) (hat : ∀ w ∈ vx_at0 own ic cls names, w.before args s = true)
    (hgood : ∀ w ∈ Cond.classLink own ik cls :: Cond.initialized cls :: vx_at0 own ic cls names, vx_ot w = true)
    (hU : vx_Zq Bundle.tN "UNASSIGNED_STACK" Bundle.steD A s s.heap) (hN : vx_Zq Bundle.tN "SUPPRESSED_SENTINEL" Bundle.listD A s s.heap) (hS : va_S A s.heap H locs) (hsize : ls.size = c.maxLocals)
    (d0 : decode cc pc = .ok (.new ik, 3)) (d3 : decode cc (pc + 3) = .ok (.dup, 1)) (d4 : decode cc (pc + 4) = .ok (.invokespecial ic, 3)) (d7 : decode cc (pc + 7) = .ok (.athrow, 1))
    (hout : ∀ x ∈ c.exceptionTable.toList, covers x (pc + 7) = false)
    (hRframes : names.length + 3 < R.frames) (hRlocals : (rest.map fun v => v.category).sum + (13 * (names.length + 1) + 42) ≤ R.locals) (hRcells : cells + 1 ≤ R.cells) (hRslots : slots + 6 ≤ R.slots) (hlocks : meth.locks = false)
    (hx : ∀ t : State, s.vm.Alike t.vm → H.size ≤ t.heap.size → (∀ q : Nat, q < H.size → t.heap[q]? = H[q]?) → XC cls s t)
    (hf : ∀ z ∈ locs, free z.base) (hc : cells + 1 ≤ mc) (hs : slots + 6 ≤ ms) :
    W p l e R s m args below meth c H locs cells slots (vx_MQ below Qc XC args s mc ms free) (F0 m pc ls rest) := by
  intro T hT X
  have htr : e.platform.stackTraces = false := (show e.platform.stackTraces = l.stackTraces by rw [X.admits.platform]).trans hl
  have Y := vx_rebase X (R' := { frames := R.frames, locals := R.locals, cells := 1, slots := 6 }) (Nat.le_refl _) (Nat.le_refl _) hRcells hRslots
  obtain ⟨s', hA⟩ : ∃ z, z = (T.setVm s.vm).setFrames (.invoking m args :: below) := ⟨_, rfl⟩
  rw [← hA] at Y
  have hvm : s'.vm = s.vm := by rw [hA]; rfl
  have hhp : s'.heap = H := by rw [hA]; exact hT
  have hW0 : s.WarmedH s'.vm := by rw [hvm]; exact State.WarmedH.refl s
  have hat' : ∀ w ∈ vx_at0 own ic cls names, w.before args s' = true := fun w hw => vx_ot_at hW0 hvm.symm (hgood w (List.mem_cons_of_mem _ (List.mem_cons_of_mem _ hw))) (hat w hw)
  have hk' : (Cond.classLink own ik cls).before args s' = true := vx_ot_at hW0 hvm.symm (hgood _ List.mem_cons_self) hk
  have hini' : (Cond.initialized cls).before args s' = true := vx_ot_at hW0 hvm.symm (hgood _ (List.mem_cons_of_mem _ List.mem_cons_self)) hini
  have hU' : vx_Zq Bundle.tN "UNASSIGNED_STACK" Bundle.steD A s' s'.heap := by rw [hhp]; exact vx_Zq.moved hW0.alike (hU.kept hS.2.1)
  have hN' : vx_Zq Bundle.tN "SUPPRESSED_SENTINEL" Bundle.listD A s' s'.heap := by rw [hhp]; exact vx_Zq.moved hW0.alike (hN.kept hS.2.1)
  have h : ∀ w ∈ Bundle.ownAtoms0 own ic cls names, w.before args s' = true := vx_own hat' (vx_isRefq hU'.1) (vx_isRefq hN'.1) hU'.2.word hN'.2.word
  have hown' : s'.vm.findClass own = some m.cls := by rw [hvm]; exact hown
  have hins : (Cond.instantiable cls 6).before args s' = true := h _ (by simp [Bundle.ownAtoms0])
  obtain ⟨vm₁, cX, kX, hfX, hkX, -, -, X₁, st1⟩ := Y.newCold hexec (own := own) (C := cls) (index := ik) (n := 6) hown' hk' hins hini'
    (g := F0 m pc ls rest) rfl (by rw [hb]; exact d0) (Nat.le_refl _) (Nat.le_refl _)
  generalize hT1 : (T.setVm vm₁).pushCell { cls := cX, slots := kX.instanceTypes.map defaultValue, vm := .none } = T1 at X₁ st1
  have hcat : (Value.ref T.heap.size).category = 1 := rfl
  have hcellA : T1.heap[T.heap.size]? = some (freshCell cX kX) := by rw [← hT1]; exact State.heap_pushCell_size _ _
  have d3' : decode c.code (pc + 3) = .ok (.dup, 1) := by rw [hb]; exact d3
  obtain ⟨U, hsteps, hrun, hend, hW, hsame, ce, hce, hO⟩ := X₁.ctorThrow0 hexec htr (own := own) (cls := cls) (names := names) (ic := ic) hown' hcls hnames h (fun x hx => nomatch hx) hfX hkX hcellA (by rw [hhp, hT]; exact Nat.le_refl _)
    (g := { method := m, pc := pc + 4, locals := ls, stack := .ref T.heap.size :: .ref T.heap.size :: rest, locked := none }) rfl hsize rfl rfl (rest := rest) rfl
    (by rw [hb]; exact d4) (by rw [hb]; exact d7) hout hRframes (by simp only [List.map_cons, List.sum_cons, hcat]; omega) hlocks
  obtain ⟨f1, f2⟩ := vx_frame hsame
  rw [hhp] at f1 f2
  have hWs : s.WarmedH U.vm := State.WarmedH.trans hW0 hW
  have hcl : s.vm.findClass cls = some ce.cls := by
    have h9 := hO.cls
    rw [hvm] at h9
    exact h9
  have hall : s.sameButNew ({ U with vm := s.vm } : State) locs mc ms := by
    subst hA
    obtain ⟨e1, e2⟩ := hsame
    rw [State.setFrames_setFrames] at e1
    have h2 : (T.setVm s.vm).sameButNew ({ U with vm := s.vm } : State) [] (0 + 1) (0 + 6) := ⟨e1, e2⟩
    have h3 := X.same.trans h2
    rw [List.append_nil] at h3
    exact h3.mono hc hs
  refine ⟨U, ?_, .threw T.heap.size, hrun, hend, Or.inr ⟨T.heap.size, rfl, cls, ce, locs, hx U hWs.alike f1 (fun q hq => f2 q hq (fun z hz => nomatch hz)), hce, hO.vm, hcl, hWs, hall, hf⟩⟩
  refine st1 _ ?_
  show Steps p.tables e below (T1.setTop { method := m, pc := pc + 3, locals := ls, stack := .ref T.heap.size :: rest, locked := none }) _
  jvm_step X₁.here [X₁.here.top, hexec, d3', Value.category]
  exact hsteps
/-- 'throw new E("text")': new; dup; ldc; invokespecial; athrow -/
theorem vx_throwS {cc : ByteArray} {pc : Nat} (hexec : p.tables.exec = Jvm.exec) (hb : c.code = cc) (hl : l.stackTraces = false) {own cls text : String} {names : List String} {ik is ic mc ms sa : Nat} {A : Nat → Prop}
    (hown : s.vm.findClass own = some m.cls) (hcls : Bundle.fit cls = true) (hnames : ∀ n ∈ names, Bundle.fit n = true)
    (hk : (Cond.classLink own ik cls).before args s = true) (hini : (Cond.initialized cls).before args s = true) (hstr : vk_R own is text sa s) (hat : ∀ w ∈ vx_atS own ic cls names, w.before args s = true)
    (hgood : ∀ w ∈ Cond.classLink own ik cls :: Cond.initialized cls :: vx_atS own ic cls names, vx_ot w = true)
    (hU : vx_Zq Bundle.tN "UNASSIGNED_STACK" Bundle.steD A s s.heap) (hN : vx_Zq Bundle.tN "SUPPRESSED_SENTINEL" Bundle.listD A s s.heap) (hS : va_S A s.heap H locs) (hsize : ls.size = c.maxLocals)
    (d0 : decode cc pc = .ok (.new ik, 3)) (d3 : decode cc (pc + 3) = .ok (.dup, 1)) (d4 : decode cc (pc + 4) = .ok (.ldc is, 2)) (d6 : decode cc (pc + 6) = .ok (.invokespecial ic, 3)) (d9 : decode cc (pc + 9) = .ok (.athrow, 1))
    (hout : ∀ x ∈ c.exceptionTable.toList, covers x (pc + 9) = false)
    (hRframes : names.length + 3 < R.frames) (hRlocals : (rest.map fun v => v.category).sum + (13 * (names.length + 1) + 43) ≤ R.locals) (hRcells : cells + 1 ≤ R.cells) (hRslots : slots + 6 ≤ R.slots) (hlocks : meth.locks = false)
    (hx : ∀ t : State, s.vm.Alike t.vm → H.size ≤ t.heap.size → (∀ q : Nat, q < H.size → t.heap[q]? = H[q]?) → XC cls s t)
    (hf : ∀ z ∈ locs, free z.base) (hc : cells + 1 ≤ mc) (hs : slots + 6 ≤ ms) :
    W p l e R s m args below meth c H locs cells slots (vx_MQ below Qc XC args s mc ms free) (F0 m pc ls rest) := by
  intro T hT X
  have htr : e.platform.stackTraces = false := (show e.platform.stackTraces = l.stackTraces by rw [X.admits.platform]).trans hl
  have Y := vx_rebase X (R' := { frames := R.frames, locals := R.locals, cells := 1, slots := 6 }) (Nat.le_refl _) (Nat.le_refl _) hRcells hRslots
  obtain ⟨s', hA⟩ : ∃ z, z = (T.setVm s.vm).setFrames (.invoking m args :: below) := ⟨_, rfl⟩
  rw [← hA] at Y
  have hvm : s'.vm = s.vm := by rw [hA]; rfl
  have hhp : s'.heap = H := by rw [hA]; exact hT
  have hW0 : s.WarmedH s'.vm := by rw [hvm]; exact State.WarmedH.refl s
  have hat' : ∀ w ∈ vx_atS own ic cls names, w.before args s' = true := fun w hw => vx_ot_at hW0 hvm.symm (hgood w (List.mem_cons_of_mem _ (List.mem_cons_of_mem _ hw))) (hat w hw)
  have hk' : (Cond.classLink own ik cls).before args s' = true := vx_ot_at hW0 hvm.symm (hgood _ List.mem_cons_self) hk
  have hini' : (Cond.initialized cls).before args s' = true := vx_ot_at hW0 hvm.symm (hgood _ (List.mem_cons_of_mem _ List.mem_cons_self)) hini
  have hU' : vx_Zq Bundle.tN "UNASSIGNED_STACK" Bundle.steD A s' s'.heap := by rw [hhp]; exact vx_Zq.moved hW0.alike (hU.kept hS.2.1)
  have hN' : vx_Zq Bundle.tN "SUPPRESSED_SENTINEL" Bundle.listD A s' s'.heap := by rw [hhp]; exact vx_Zq.moved hW0.alike (hN.kept hS.2.1)
  have h : ∀ w ∈ Bundle.ownAtoms own ic cls names, w.before args s' = true := vx_own hat' (vx_isRefq hU'.1) (vx_isRefq hN'.1) hU'.2.word hN'.2.word
  have hown' : s'.vm.findClass own = some m.cls := by rw [hvm]; exact hown
  have hins : (Cond.instantiable cls 6).before args s' = true := h _ (by simp [Bundle.ownAtoms])
  obtain ⟨vm₁, cX, kX, hfX, hkX, -, -, X₁, st1⟩ := Y.newCold hexec (own := own) (C := cls) (index := ik) (n := 6) hown' hk' hins hini'
    (g := F0 m pc ls rest) rfl (by rw [hb]; exact d0) (Nat.le_refl _) (Nat.le_refl _)
  generalize hT1 : (T.setVm vm₁).pushCell { cls := cX, slots := kX.instanceTypes.map defaultValue, vm := .none } = T1 at X₁ st1
  have hcat : (Value.ref T.heap.size).category = 1 := rfl
  have hcellA : T1.heap[T.heap.size]? = some (freshCell cX kX) := by rw [← hT1]; exact State.heap_pushCell_size _ _
  have d3' : decode c.code (pc + 3) = .ok (.dup, 1) := by rw [hb]; exact d3
  have d4' : decode c.code (pc + 4) = .ok (.ldc is, 2) := by rw [hb]; exact d4
  have hstr' : vk_R own is text sa s' := vk_R.warm hW0 hstr
  obtain ⟨U, hsteps, hrun, hend, hW, hsame, ce, hce, hO⟩ := X₁.ctorThrowS hexec htr (own := own) (cls := cls) (names := names) (ic := ic) hown' hcls hnames h (fun x hx => nomatch hx) hfX hkX hcellA (by rw [hhp, hT]; exact Nat.le_refl _) (msg := .ref sa) rfl
    (g := { method := m, pc := pc + 6, locals := ls, stack := .ref sa :: .ref T.heap.size :: .ref T.heap.size :: rest, locked := none }) rfl hsize rfl rfl (rest := rest) rfl
    (by rw [hb]; exact d6) (by rw [hb]; exact d9) hout hRframes (by simp only [List.map_cons, List.sum_cons, hcat]; omega) hlocks
  obtain ⟨f1, f2⟩ := vx_frame hsame
  rw [hhp] at f1 f2
  have hWs : s.WarmedH U.vm := State.WarmedH.trans hW0 hW
  have hcl : s.vm.findClass cls = some ce.cls := by
    have h9 := hO.cls
    rw [hvm] at h9
    exact h9
  have hall : s.sameButNew ({ U with vm := s.vm } : State) locs mc ms := by
    subst hA
    obtain ⟨e1, e2⟩ := hsame
    rw [State.setFrames_setFrames] at e1
    have h2 : (T.setVm s.vm).sameButNew ({ U with vm := s.vm } : State) [] (0 + 1) (0 + 6) := ⟨e1, e2⟩
    have h3 := X.same.trans h2
    rw [List.append_nil] at h3
    exact h3.mono hc hs
  refine ⟨U, ?_, .threw T.heap.size, hrun, hend, Or.inr ⟨T.heap.size, rfl, cls, ce, locs, hx U hWs.alike f1 (fun q hq => f2 q hq (fun z hz => nomatch hz)), hce, hO.vm, hcl, hWs, hall, hf⟩⟩
  refine st1 _ ?_
  show Steps p.tables e below (T1.setTop { method := m, pc := pc + 3, locals := ls, stack := .ref T.heap.size :: rest, locked := none }) _
  jvm_step X₁.here [X₁.here.top, hexec, d3', Value.category]
  exact X₁.ldcString hexec (own := own) (text := text) (index := is) (a := sa) hown' hstr'.1 hstr'.2
    (g := { method := m, pc := pc + 4, locals := ls, stack := .ref T.heap.size :: .ref T.heap.size :: rest, locked := none }) rfl d4' _ hsteps
/-- 'throw new E("text")', the text by a wide index -/
theorem vx_throwSW {cc : ByteArray} {pc : Nat} (hexec : p.tables.exec = Jvm.exec) (hb : c.code = cc) (hl : l.stackTraces = false) {own cls text : String} {names : List String} {ik is ic mc ms sa : Nat} {A : Nat → Prop}
    (hown : s.vm.findClass own = some m.cls) (hcls : Bundle.fit cls = true) (hnames : ∀ n ∈ names, Bundle.fit n = true)
    (hk : (Cond.classLink own ik cls).before args s = true) (hini : (Cond.initialized cls).before args s = true) (hstr : vk_R own is text sa s) (hat : ∀ w ∈ vx_atS own ic cls names, w.before args s = true)
    (hgood : ∀ w ∈ Cond.classLink own ik cls :: Cond.initialized cls :: vx_atS own ic cls names, vx_ot w = true)
    (hU : vx_Zq Bundle.tN "UNASSIGNED_STACK" Bundle.steD A s s.heap) (hN : vx_Zq Bundle.tN "SUPPRESSED_SENTINEL" Bundle.listD A s s.heap) (hS : va_S A s.heap H locs) (hsize : ls.size = c.maxLocals)
    (d0 : decode cc pc = .ok (.new ik, 3)) (d3 : decode cc (pc + 3) = .ok (.dup, 1)) (d4 : decode cc (pc + 4) = .ok (.ldc_w is, 3)) (d7 : decode cc (pc + 7) = .ok (.invokespecial ic, 3)) (d10 : decode cc (pc + 10) = .ok (.athrow, 1))
    (hout : ∀ x ∈ c.exceptionTable.toList, covers x (pc + 10) = false)
    (hRframes : names.length + 3 < R.frames) (hRlocals : (rest.map fun v => v.category).sum + (13 * (names.length + 1) + 43) ≤ R.locals) (hRcells : cells + 1 ≤ R.cells) (hRslots : slots + 6 ≤ R.slots) (hlocks : meth.locks = false)
    (hx : ∀ t : State, s.vm.Alike t.vm → H.size ≤ t.heap.size → (∀ q : Nat, q < H.size → t.heap[q]? = H[q]?) → XC cls s t)
    (hf : ∀ z ∈ locs, free z.base) (hc : cells + 1 ≤ mc) (hs : slots + 6 ≤ ms) :
    W p l e R s m args below meth c H locs cells slots (vx_MQ below Qc XC args s mc ms free) (F0 m pc ls rest) := by
  intro T hT X
  have htr : e.platform.stackTraces = false := (show e.platform.stackTraces = l.stackTraces by rw [X.admits.platform]).trans hl
  have Y := vx_rebase X (R' := { frames := R.frames, locals := R.locals, cells := 1, slots := 6 }) (Nat.le_refl _) (Nat.le_refl _) hRcells hRslots
  obtain ⟨s', hA⟩ : ∃ z, z = (T.setVm s.vm).setFrames (.invoking m args :: below) := ⟨_, rfl⟩
  rw [← hA] at Y
  have hvm : s'.vm = s.vm := by rw [hA]; rfl
  have hhp : s'.heap = H := by rw [hA]; exact hT
  have hW0 : s.WarmedH s'.vm := by rw [hvm]; exact State.WarmedH.refl s
  have hat' : ∀ w ∈ vx_atS own ic cls names, w.before args s' = true := fun w hw => vx_ot_at hW0 hvm.symm (hgood w (List.mem_cons_of_mem _ (List.mem_cons_of_mem _ hw))) (hat w hw)
  have hk' : (Cond.classLink own ik cls).before args s' = true := vx_ot_at hW0 hvm.symm (hgood _ List.mem_cons_self) hk
  have hini' : (Cond.initialized cls).before args s' = true := vx_ot_at hW0 hvm.symm (hgood _ (List.mem_cons_of_mem _ List.mem_cons_self)) hini
  have hU' : vx_Zq Bundle.tN "UNASSIGNED_STACK" Bundle.steD A s' s'.heap := by rw [hhp]; exact vx_Zq.moved hW0.alike (hU.kept hS.2.1)
  have hN' : vx_Zq Bundle.tN "SUPPRESSED_SENTINEL" Bundle.listD A s' s'.heap := by rw [hhp]; exact vx_Zq.moved hW0.alike (hN.kept hS.2.1)
  have h : ∀ w ∈ Bundle.ownAtoms own ic cls names, w.before args s' = true := vx_own hat' (vx_isRefq hU'.1) (vx_isRefq hN'.1) hU'.2.word hN'.2.word
  have hown' : s'.vm.findClass own = some m.cls := by rw [hvm]; exact hown
  have hins : (Cond.instantiable cls 6).before args s' = true := h _ (by simp [Bundle.ownAtoms])
  obtain ⟨vm₁, cX, kX, hfX, hkX, -, -, X₁, st1⟩ := Y.newCold hexec (own := own) (C := cls) (index := ik) (n := 6) hown' hk' hins hini'
    (g := F0 m pc ls rest) rfl (by rw [hb]; exact d0) (Nat.le_refl _) (Nat.le_refl _)
  generalize hT1 : (T.setVm vm₁).pushCell { cls := cX, slots := kX.instanceTypes.map defaultValue, vm := .none } = T1 at X₁ st1
  have hcat : (Value.ref T.heap.size).category = 1 := rfl
  have hcellA : T1.heap[T.heap.size]? = some (freshCell cX kX) := by rw [← hT1]; exact State.heap_pushCell_size _ _
  have d3' : decode c.code (pc + 3) = .ok (.dup, 1) := by rw [hb]; exact d3
  have d4' : decode c.code (pc + 4) = .ok (.ldc_w is, 3) := by rw [hb]; exact d4
  have hstr' : vk_R own is text sa s' := vk_R.warm hW0 hstr
  obtain ⟨U, hsteps, hrun, hend, hW, hsame, ce, hce, hO⟩ := X₁.ctorThrowS hexec htr (own := own) (cls := cls) (names := names) (ic := ic) hown' hcls hnames h (fun x hx => nomatch hx) hfX hkX hcellA (by rw [hhp, hT]; exact Nat.le_refl _) (msg := .ref sa) rfl
    (g := { method := m, pc := pc + 7, locals := ls, stack := .ref sa :: .ref T.heap.size :: .ref T.heap.size :: rest, locked := none }) rfl hsize rfl rfl (rest := rest) rfl
    (by rw [hb]; exact d7) (by rw [hb]; exact d10) hout hRframes (by simp only [List.map_cons, List.sum_cons, hcat]; omega) hlocks
  obtain ⟨f1, f2⟩ := vx_frame hsame
  rw [hhp] at f1 f2
  have hWs : s.WarmedH U.vm := State.WarmedH.trans hW0 hW
  have hcl : s.vm.findClass cls = some ce.cls := by
    have h9 := hO.cls
    rw [hvm] at h9
    exact h9
  have hall : s.sameButNew ({ U with vm := s.vm } : State) locs mc ms := by
    subst hA
    obtain ⟨e1, e2⟩ := hsame
    rw [State.setFrames_setFrames] at e1
    have h2 : (T.setVm s.vm).sameButNew ({ U with vm := s.vm } : State) [] (0 + 1) (0 + 6) := ⟨e1, e2⟩
    have h3 := X.same.trans h2
    rw [List.append_nil] at h3
    exact h3.mono hc hs
  refine ⟨U, ?_, .threw T.heap.size, hrun, hend, Or.inr ⟨T.heap.size, rfl, cls, ce, locs, hx U hWs.alike f1 (fun q hq => f2 q hq (fun z hz => nomatch hz)), hce, hO.vm, hcl, hWs, hall, hf⟩⟩
  refine st1 _ ?_
  show Steps p.tables e below (T1.setTop { method := m, pc := pc + 3, locals := ls, stack := .ref T.heap.size :: rest, locked := none }) _
  jvm_step X₁.here [X₁.here.top, hexec, d3', Value.category]
  exact X₁.ldcStringW hexec (own := own) (text := text) (index := is) (a := sa) hown' hstr'.1 hstr'.2
    (g := { method := m, pc := pc + 4, locals := ls, stack := .ref T.heap.size :: .ref T.heap.size :: rest, locked := none }) rfl d4' _ hsteps
end Ends
section Bodies
variable {l : Launch}
theorem vx_ofW {y : MethodName} {ws ws' : List Cond} {rm : Room} {Pc : Array Value → State → Prop} {Qc : Array Value → State → Outcome → State → Prop} {XC : String → State → State → Prop} {mc ms : Nat} {free : Addr → Prop} {cc : ByteArray} {maxL : Nat} {ret : Option FieldType}
    (hy : plainName y.cls = true) (hw : ws = Cond.code y cc maxL ret :: ws')
    (body : ∀ p e s m args below meth c s₁, BodyLoose p l y (headSpec ws rm) cc maxL ret e s m args below meth c s₁ → c.maxLocals = maxL → (∀ x ∈ c.exceptionTable.toList, False) → Pc args s →
      W p l e (headSpec ws rm).room s m args below meth c s.heap [] 0 0 (vx_MQ below Qc XC args s mc ms free) (entryFrame m args maxL)) : vx_Met l y ws rm Pc Qc XC mc ms free := by
  refine MetFree.of_bodyS (code := cc) (maxLocals := maxL) (ret := ret) hy ?_ ?_
  · intro args s m h hn
    obtain ⟨meth, c, h1, h2, h3, h4, h5, h6, -, -⟩ := Cond.code_spec hn (atoms_spec (ws := ws) h _ (by rw [hw]; exact List.mem_cons_self))
    exact ⟨meth, c, h1, h2, h3, h4, h5, h6⟩
  · intro p e s m args below meth c s₁ B hml hP _
    have hh0 : s₁.heap = s.heap := by rw [B.state]; rfl
    have ht : ∀ x ∈ c.exceptionTable.toList, False := by
      obtain ⟨meth9, c9, h1, h2, -, -, -, -, h7, -⟩ := Cond.code_spec B.named (atoms_spec (ws := ws) B.pre _ (by rw [hw]; exact List.mem_cons_self))
      cases Option.some.inj (h1.symm.trans B.method)
      cases Option.some.inj (h2.symm.trans (Stand.of_body B).code)
      intro x hx
      rw [Array.isEmpty_iff.mp h7] at hx
      cases hx
    obtain ⟨t, a1, o, b1, b2, b3⟩ := body p e s m args below meth c s₁ B hml ht hP s₁ hh0 (Stand.of_body B)
    exact ⟨t, o, a1, b1, b2, b3⟩
/-- the table of a body with handlers -/
theorem vx_table {p : Program} {x y : MethodName} {S : Spec} {cc bytes : ByteArray} {maxL maxL' : Nat} {ret ret' : Option FieldType} {e : Env} {s s₁ : State} {m : MethodId} {args : Array Value} {below : List Frame} {meth : Method} {c : Code} {hh : List (Nat × Nat × Nat × Nat)}
    (B : BodyLoose p l y S cc maxL ret e s m args below meth c s₁) (h : (Cond.codeWith y bytes maxL' ret' hh).before args s = true) : c.exceptionTable.toList = tableOf hh := by
  obtain ⟨m9, meth9, c9, hn9, h1, h2, -, -, h6, -⟩ := Cond.codeWith_spec h
  cases Option.some.inj (hn9.symm.trans B.named)
  cases Option.some.inj (h1.symm.trans B.method)
  cases Option.some.inj (h2.symm.trans (Stand.of_body B).code)
  rw [← h6, table_eq]
end Bodies
end VXA
/-! ===== END ===== -/
/-! ===== BEGIN a static call of a method with an exception table ===== -/
section VXS
variable {p : Program} {l : Launch} {e : Env} {R : Room} {s : State} {m : MethodId} {args : Array Value} {below : List Frame} {meth : Method} {c : Code} {T : State} {H : Heap} {locs : List Loc} {cells slots : Nat}
abbrev vx_CSW (R : Room) (s : State) (args : Array Value) (own : String) (index : Nat) (y : MethodName) (bytes : ByteArray) (maxL : Nat) (ret : Option FieldType) (hh : List (Nat × Nat × Nat × Nat)) (ws : List Cond) (rm : Room) (mc ms n : Nat) : Prop :=
  (rm.cells = mc ∧ rm.slots = ms ∧ rm.frames + 1 ≤ R.frames ∧ 8 + (maxL + 11) + rm.locals ≤ R.locals ∧ (∀ w ∈ ws, ∀ (a' : Array Value) (U : State), s.WarmedH U.vm → w.before a' U = true) ∧ Cond.codeWith y bytes maxL ret hh ∈ ws) ∧
  (Cond.codeWith y bytes maxL ret hh).before args s = true ∧ (Cond.initialized y.cls).before args s = true ∧ (y.cls ≠ "java/lang/invoke/MethodHandle" ∧ y.cls ≠ "java/lang/invoke/VarHandle") ∧
  (∀ sig, parseMethodDescriptor y.desc = some sig → n = sig.parameters.length) ∧ (Cond.methodLink own index y).before args s = true ∧ (Cond.static y).before args s = true
theorem vx_cwSW {own : String} {index maxL mc ms : Nat} {y : MethodName} {bytes : ByteArray} {ret : Option FieldType} {hh : List (Nat × Nat × Nat × Nat)} {Ts ws ws' : List Cond} {rm : Room} (n : Nat) (ht : ∀ w ∈ Ts, w.before args s = true) (hT : GoodIn Ts (va_wsS own index y ws)) (hw : ws = Cond.codeWith y bytes maxL ret hh :: ws') (hrc : rm.cells = mc) (hrs : rm.slots = ms)
    (hd : y.cls ≠ "java/lang/invoke/MethodHandle" ∧ y.cls ≠ "java/lang/invoke/VarHandle" ∧ (parseMethodDescriptor y.desc).map (fun d => d.parameters.length) = some n) (hR : rm.frames + 1 ≤ R.frames ∧ 8 + (maxL + 11) + rm.locals ≤ R.locals) :
    vx_CSW R s args own index y bytes maxL ret hh ws rm mc ms n := by
  have ok : ∀ w ∈ va_wsS own index y ws, w.before args s = true := fun w h => ht w (hT w h).1
  have hG : GoodIn Ts ws := fun w h => hT w (by unfold va_wsS; exact List.mem_append_right _ h)
  have hc : Cond.codeWith y bytes maxL ret hh ∈ ws := by rw [hw]; exact List.mem_cons_self
  refine ⟨⟨hrc, hrs, hR.1, hR.2, pay_in ht hG, hc⟩, ht _ (hG _ hc).1, ok _ (by simp [va_wsS]), ⟨hd.1, hd.2.1⟩, fun sig h => ?_, ok _ (by simp [va_wsS]), ok _ (by simp [va_wsS])⟩
  have h2 := hd.2.2
  rw [h] at h2
  exact (Option.some.inj h2).symm
theorem vx_callSW (X : Stand p l e R s m args below meth c T locs cells slots) (hexec : p.tables.exec = Jvm.exec) {own : String} {index : Nat} {y : MethodName} {bytes : ByteArray} {maxL : Nat} {ret : Option FieldType} {hh : List (Nat × Nat × Nat × Nat)}
    (hown : s.vm.findClass own = some m.cls) (hlink : (Cond.methodLink own index y).before args s = true) (hstat : (Cond.static y).before args s = true) (hinit : (Cond.initialized y.cls).before args s = true)
    (hcode : (Cond.codeWith y bytes maxL ret hh).before args s = true) (hy : y.cls ≠ "java/lang/invoke/MethodHandle" ∧ y.cls ≠ "java/lang/invoke/VarHandle")
    {W9 : Nat} {Pre : Pt → Array Value → Prop} {Post : Pt → Array Value → Option Value → Pt → Prop} (hK : Back l R p e below s args y 3 W9 Pre Post)
    {g : JFrame} (hg : g.method = m) (hsize : g.locals.size = c.maxLocals) {argsL rest : List Value} (hlen : ∀ sig, parseMethodDescriptor y.desc = some sig → argsL.length = sig.parameters.length)
    (hstack : g.stack = argsL.reverse ++ rest) (hW : 2 * g.monitorRoom + (rest.map fun v => v.category).sum ≤ W9) (hdg : decode c.code g.pc = .ok (.invokestatic index, 3))
    (hpre : ∀ vm₁, s.WarmedH vm₁ → Pre ⟨T.setVm vm₁, locs, cells, slots⟩ argsL.toArray) :
    ∃ (v : Option Value) (vm₁ : Vm) (B : Pt), s.WarmedH vm₁ ∧ Stand p l e R s m args below meth c B.U B.locs B.cells B.slots ∧ Post ⟨T.setVm vm₁, locs, cells, slots⟩ argsL.toArray v B ∧
      ∀ target, Steps p.tables e below (B.U.setTop { g with pc := g.pc + 3, stack := v.toList ++ rest }) target → Steps p.tables e below (T.setTop g) target := by
  obtain ⟨mk, methM, cM, hnamed, hmethM, -, -, -, -, -, -, hsigM⟩ := Cond.codeWith_spec hcode
  have hstatic : methM.isStatic = true := Cond.static_spec hnamed hmethM hstat
  obtain ⟨kP, hkP, -⟩ := className_of_methodNamed hnamed
  have hinitP : kP.init = .initialized := Cond.initialized_spec (findClass_of_methodNamed hnamed) hkP hinit
  obtain ⟨vm₁, X₁, hstep₁⟩ := X.invokestatic hexec hown hlink hnamed hmethM hstatic hkP hinitP hy (g := g) hg (argsL := argsL) (rest := rest) (hlen _ hsigM) hstack hdg
  obtain ⟨v, B, X', hpost, hsteps⟩ := hK m meth c ⟨T.setVm vm₁, locs, cells, slots⟩ { g with stack := rest } (.invokestatic index) mk argsL.toArray X₁ hg hsize hdg hW (X₁.named hnamed) (hpre vm₁ X₁.warmed)
  exact ⟨v, vm₁, B, X₁.warmed, X', hpost, fun target h => hstep₁ _ fun acts => by rw [doInvoke_state]; exact hsteps.trans h⟩
theorem vx_runSW {y : MethodName} {bytes cc : ByteArray} {maxL nL mc ms n index : Nat} {ret : Option FieldType} {hh : List (Nat × Nat × Nat × Nat)} {ws : List Cond} {rm : Room} {Pc : Array Value → State → Prop} {Qc : Array Value → State → Outcome → State → Prop} {free : Addr → Prop} {Ts : List Cond} {own : String} {As rest : List Value} {g : JFrame}
    (S : CallFix p m c cc nL s args Ts own) (hM : Met l y ws rm Pc Qc mc ms free) (cw : vx_CSW R s args own index y bytes maxL ret hh ws rm mc ms n) (hp : PreS s H Pc As)
    (hg : g.method = m) (hn : As.length = n) (hsize : g.locals.size = nL) (hstack : g.stack = As.reverse ++ rest) (hW : 2 * g.monitorRoom + (rest.map fun v => v.category).sum ≤ 8) (hdg : decode cc g.pc = .ok (.invokestatic index, 3)) (hf : cells + mc ≤ R.cells ∧ slots + ms ≤ R.slots) :
    va_Run p l e R s m args below meth c H locs cells slots mc ms g rest (Qc As.toArray) (free) := by
  obtain ⟨⟨hrc, hrs, hfr, hlo, hws, hcw⟩, hcode, hini, hy, hlen, hl, hstt⟩ := cw
  have hK : Back l R p e below s args y 3 8 (PreOf R mc ms Pc) (PostOf Qc mc ms free) := va_backW (hh := hh) (bytes := bytes) (maxL := maxL) (ret := ret) hM hp.1 hrc hrs hfr hlo hws hcw (fun a' U hW => word_at hW (Or.inl (by first | rfl | simp [Cond.onTables, Cond.keeps, Cond.steady])) hini)
  obtain ⟨hx, hb, hml, ho, -⟩ := S
  intro T hT X
  obtain ⟨v, vm₁, ⟨U', l2, c2, s2⟩, hW₁, X', ⟨g', mk, t, L, e1, e2, hq, h1, hL, h2, h3⟩, st⟩ := vx_callSW X hx (hh := hh) (bytes := bytes) (maxL := maxL) (ret := ret) ho hl hstt hini hcode hy hK hg (hsize.trans hml.symm) (argsL := As) (rest := rest) (fun sig h => hn.trans (hlen sig h)) hstack hW (by rw [hb]; exact hdg)
    (fun vm₁ hW₁ => ⟨hf.1, hf.2, hp.2 (T.setVm vm₁) hT hW₁⟩)
  dsimp only [Pt.U, Pt.locs, Pt.cells, Pt.slots] at X' e1 e2 h1 h2 h3 st
  subst h1; subst h2; subst h3
  exact ⟨v, (T.setVm vm₁).calling g' mk As.toArray, t, U', L, hT, X', hL, e1, e2, hq, st⟩
/-- not caught here, past rows that name other classes: it goes on to the caller -/
theorem vx_outP {p : Program} {l : Launch} {e : Env} {R : Room} {s : State} {m : MethodId} {args : Array Value} {below : List Frame} {meth : Method} {c : Code} {H : Heap} {locs : List Loc} {cells slots : Nat} {free : Addr → Prop} {ls : Array Slot} {rest : List Value} {Qc : Array Value → State → Outcome → State → Prop} {XC : String → State → State → Prop}
    {pc : Nat} {own E : String} {ce : Cell} {q : Addr} {mc ms : Nat} (hown : s.vm.findClass own = some m.cls) (hlocks : meth.locks = false)
    (hpass : ∀ z ∈ c.exceptionTable.toList, covers z pc = false ∨ (z.catchType ≠ 0 ∧ ∃ nm : String, (Cond.classLink own z.catchType nm).before args s = true ∧ va_Nc E nm s)) (hcell : H[q]? = some ce) (hv : ce.vm = .none) (hcl : s.vm.findClass E = some ce.cls)
    (hx : ∀ t : State, t.heap = H → s.vm.Alike t.vm → XC E s t) (hf : ∀ z ∈ locs, free z.base) (hc : cells ≤ mc) (hs : slots ≤ ms) :
    vx_W p l e R s m args below meth c H locs cells slots (vx_MQ below Qc XC args s mc ms free) (F0 m pc ls rest) q := by
  intro T hT X
  have hpl : e.platform.magicAccessors = ({} : Platform).magicAccessors := by rw [X.admits.platform]
  obtain ⟨vm', hW', X', st⟩ := X.outThrough hlocks q (g := F0 m pc ls rest) rfl rfl rfl (cell := ce) (by rw [hT]; exact hcell) (by rw [hv]; rfl)
    (by obtain ⟨k9, h9, -⟩ := Vm.findClass_spec hcl; exact ⟨k9, h9⟩) (fun z hz => by
      rcases hpass z hz with h | ⟨hz0, nm, hl1, hn1⟩
      · exact Or.inl h
      · obtain ⟨c6, hc6, hcl6⟩ := Cond.classLink_spec hown hl1 e.platform hpl
        obtain ⟨a8, b8, h1, h2, h3⟩ := hn1
        cases Option.some.inj (h1.symm.trans hcl)
        cases Option.some.inj (h2.symm.trans hc6)
        exact Or.inr ⟨hz0, _, hcl6, h3⟩)
  obtain ⟨g₀, hfr⟩ := X'.frames_eq
  have hcell9 : ((T.setVm vm').setFrames (.throwing q :: below)).heap[q]? = some ce := by
    show T.heap[q]? = some ce
    rw [hT]; exact hcell
  have hend : Ended ((T.setVm vm').setFrames (.throwing q :: below)) below (.threw q) := State.frames_setFrames _ (State.cur_lt_of_frames hfr)
  refine ⟨(T.setVm vm').setFrames (.throwing q :: below), ?_, .threw q, X'.here.running, hend, Or.inr ⟨q, rfl, E, ce, locs, hx _ hT (X'.ends _).1.alike, hcell9, hv, hcl, (X'.ends _).1, (X'.ends _).2.mono hc hs, hf⟩⟩
  rw [X.pushThrowing_eq]
  exact st
/-- a thing of a world lies in the heap -/
theorem vx_lt {D : va_G} {cl : List vw_C} {ws : va_W} {H1 : Heap} (h : va_P D cl ws H1) {k : Nat} {q : Nat × va_E} (hk : ws[k]? = some q) : q.1 < H1.size := (h k q hk).lt
end VXS
/-! ===== END ===== -/
/-! ===== BEGIN methods with a table of their own: called by a name, returning or throwing ===== -/
section VXH
/-! vx_backW, vx_callVX, vx_callSX, vx_callVW, vx_runVW, vx_runVX, vx_runSX, vx_ofWH follow the same proofs as their sisters above (Free/Laws.lean, Shelf42/LK1.lean); vx_outP calls Shelf42/NT130.lean (outThrough). -/
section
variable {l : Launch} {R : Room} {p : Program} {e : Env} {below : List Frame} {s : State} {sargs : Array Value} {y : MethodName} {len W9 : Nat}
theorem vx_backW {ws : List Cond} {rm : Room} {Pc : Array Value → State → Prop} {Qc : Array Value → State → Outcome → State → Prop} {XC : String → State → State → Prop} {mc ms : Nat} {free : Addr → Prop} {bytes : ByteArray} {maxL : Nat} {ret : Option FieldType} {hh : List (Nat × Nat × Nat × Nat)}
    (hM : vx_Met l y ws rm Pc Qc XC mc ms free) (hblind : FrameBlind Pc) (hrc : rm.cells = mc) (hrs : rm.slots = ms)
    (hframes : rm.frames + 1 ≤ R.frames) (hlocals : W9 + (maxL + 11) + rm.locals ≤ R.locals)
    (hws : ∀ w ∈ ws, ∀ a' U, s.WarmedH U.vm → w.before a' U = true) (hcode : Cond.codeWith y bytes maxL ret hh ∈ ws) (hinit : ∀ a' U, s.WarmedH U.vm → (Cond.initialized y.cls).before a' U = true) :
    vx_Back l R p e below s sargs y len W9 (PreOf R mc ms Pc) (PostOf Qc mc ms free) (vx_Post XC mc ms free) := by
  intro m meth c A g ig mk a X hg hsize hdg hW hn hp
  have h1 : (headSpec ws rm).pre.before a A.U = true := atoms_intro fun w hw => hws w hw _ _ X.warmed
  have h2 : (Cond.codeWith y bytes maxL ret hh).before a A.U = true := hws _ hcode _ _ X.warmed
  have h3 : (Cond.initialized y.cls).before a A.U = true := hinit _ _ X.warmed
  have h4 : A.cells + (headSpec ws rm).room.cells ≤ R.cells := by rw [show (headSpec ws rm).room.cells = mc from hrc]; exact hp.1
  have h5 : A.slots + (headSpec ws rm).room.slots ≤ R.slots := by rw [show (headSpec ws rm).room.slots = ms from hrs]; exact hp.2.1
  have hPc : Pc a (A.U.calling g mk a) := hblind _ _ _ _ hp.2.2
  obtain ⟨U, Ls, c0, s0⟩ := A
  dsimp only [Pt.U, Pt.locs, Pt.cells, Pt.slots] at h1 h2 h3 h4 h5 X hn hPc ⊢
  obtain ⟨m9, methY, cY, hn9, hmY, hcY, -, hlY, -⟩ := Cond.codeWith_spec h2
  cases Option.some.inj (hn9.symm.trans hn)
  obtain ⟨kY, hkY, -⟩ := className_of_methodNamed hn
  have hinitY : kY.init = .initialized := Cond.initialized_spec (findClass_of_methodNamed hn) hkY h3
  have h : At U g.method c below := by rw [hg]; exact X.here
  have hlocals9 : W9 + (maxL + 11) + (headSpec ws rm).room.locals ≤ R.locals := hlocals
  have happ : (headSpec ws rm).appliesLoose y e.platform (U.calling g mk a) = true :=
    Spec.appliesLoose_calling (g := g) h hdg hn hkY hinitY
      (X.room_calling (g := g) (R' := (headSpec ws rm).room) hsize hmY hcY hframes (by rw [hlY]; omega) h4 h5) h1
  obtain ⟨mid, hmid⟩ := h.above
  have hfr : (U.setTop g).frames = (.java g :: mid) ++ below := by rw [State.frames_setTop' g h.top, hmid]; rfl
  obtain ⟨o, s₂, hsteps, -, hend, hq⟩ := Steps.callFree hM p X.admits X.cas X.clock (acts := []) hfr happ hPc trivial
  have hq' : vx_Q Qc XC mc ms free a (U.calling g mk a) o s₂ := hq
  rw [State.frames_setTop' g h.top] at hend
  obtain ⟨g₀, hg0⟩ := Option.isSome_iff_exists.mp h.top
  obtain ⟨r, hr⟩ := State.topJava?_eq_some.mp hg0
  have hr' : (({ U with heap := s₂.heap, slotsUsed := s₂.slotsUsed } : State).setVm s₂.vm).frames = .java g₀ :: r := hr
  rcases hq' with ⟨hqc, L, hfe, hL⟩ | ⟨q, rfl, E, ce, L, hx, hce, hcv, hcl, hW₂, hsm, hL⟩
  · obtain ⟨⟨v, rfl⟩, hW₂, e2, q2, q3, q4, q5, q6⟩ := id hfe
    have e3 : s₂ = ({ (U.calling g mk a).setFrames s₂.frames with heap := s₂.heap, slotsUsed := s₂.slotsUsed } : State).setVm s₂.vm := by
      have : s₂ = ({ s₂ with vm := (U.calling g mk a).vm } : State).setVm s₂.vm := rfl
      rw [e2] at this
      exact this
    obtain ⟨c₂, i₂, len₂, hc₂, hd₂, hf₂⟩ := hend
    have hW' : U.WarmedH s₂.vm := hW₂
    have hcc : c₂ = c := by
      have h1 : s₂.code? g.method = U.code? g.method := by
        rw [State.code?_eq, State.code?_eq, hW'.alike.method?]
      exact Option.some.inj (hc₂.symm.trans (h1.trans h.code))
    subst hcc
    have hlen : len₂ = len := by rw [hdg] at hd₂; cases hd₂; rfl
    subst hlen
    have hs₂ : s₂ = (({ U with heap := s₂.heap, slotsUsed := s₂.slotsUsed } : State).setVm s₂.vm).setTop { g with pc := g.pc + len₂, stack := v.toList ++ g.stack } := by
      refine e3.trans ?_
      rw [hf₂, State.calling_eq h.top, State.setFrames_setFrames, State.setTop_of_frames _ hr', hr]
      rfl
    have hsame : U.sameButNew ({ U with heap := s₂.heap, slotsUsed := s₂.slotsUsed } : State) L mc ms := by
      refine ⟨?_, q2, q3, q4, q5, q6⟩
      obtain ⟨t, ht, -⟩ := State.frames_cons hr
      show ({ U with heap := s₂.heap, slotsUsed := s₂.slotsUsed } : State) = { U.setFrames U.frames with heap := s₂.heap, slotsUsed := s₂.slotsUsed }
      rw [State.setFrames_self ht]
    subst hg
    refine Or.inl ⟨v, ⟨(({ U with heap := s₂.heap, slotsUsed := s₂.slotsUsed } : State).setVm s₂.vm), Ls ++ L, c0 + mc, s0 + ms⟩,
      ⟨X.admits, X.cas, X.clock, X.frames, X.room, X.hears, X.method, X.code, (X.here.setHeapUsed s₂.heap s₂.slotsUsed).setVm hW'.alike, X.tail, State.WarmedH.trans X.warmed hW', X.limits, X.bytes, X.same.trans (hsame.setVm s.vm)⟩,
      ⟨g, mk, s₂, L, rfl, rfl, hqc, rfl, hL, rfl, rfl⟩, ?_⟩
    show Steps p.tables e below _ ((({ U with heap := s₂.heap, slotsUsed := s₂.slotsUsed } : State).setVm s₂.vm).setTop { g with pc := g.pc + len₂, stack := v.toList ++ g.stack })
    rw [← hs₂]
    exact hsteps
  · obtain ⟨e2, q2, q3, q4, q5, q6⟩ := id hsm
    have e3 : s₂ = ({ (U.calling g mk a).setFrames s₂.frames with heap := s₂.heap, slotsUsed := s₂.slotsUsed } : State).setVm s₂.vm := by
      have : s₂ = ({ s₂ with vm := (U.calling g mk a).vm } : State).setVm s₂.vm := rfl
      rw [e2] at this
      exact this
    have hf₂ : s₂.frames = .throwing q :: .java g :: U.frames.tail := hend
    have hW' : U.WarmedH s₂.vm := hW₂
    have hs₂ : s₂ = ((({ U with heap := s₂.heap, slotsUsed := s₂.slotsUsed } : State).setVm s₂.vm).setTop g).pushFrame (.throwing q) := by
      refine e3.trans ?_
      rw [hf₂, State.calling_eq h.top, State.setFrames_setFrames, State.pushFrame, State.frames_setTop _ hr', State.setTop_of_frames _ hr', State.setFrames_setFrames, hr]
      rfl
    have hsame : U.sameButNew ({ U with heap := s₂.heap, slotsUsed := s₂.slotsUsed } : State) L mc ms := by
      refine ⟨?_, q2, q3, q4, q5, q6⟩
      obtain ⟨t, ht, -⟩ := State.frames_cons hr
      show ({ U with heap := s₂.heap, slotsUsed := s₂.slotsUsed } : State) = { U.setFrames U.frames with heap := s₂.heap, slotsUsed := s₂.slotsUsed }
      rw [State.setFrames_self ht]
    subst hg
    refine Or.inr ⟨q, ⟨(({ U with heap := s₂.heap, slotsUsed := s₂.slotsUsed } : State).setVm s₂.vm), Ls ++ L, c0 + mc, s0 + ms⟩,
      ⟨X.admits, X.cas, X.clock, X.frames, X.room, X.hears, X.method, X.code, (X.here.setHeapUsed s₂.heap s₂.slotsUsed).setVm hW'.alike, X.tail, State.WarmedH.trans X.warmed hW', X.limits, X.bytes, X.same.trans (hsame.setVm s.vm)⟩,
      ⟨g, mk, s₂, L, E, ce, rfl, rfl, hx, hce, hcv, hcl, rfl, hL, rfl, rfl⟩, ?_⟩
    show Steps p.tables e below _ (((({ U with heap := s₂.heap, slotsUsed := s₂.slotsUsed } : State).setVm s₂.vm).setTop g).pushFrame (.throwing q))
    rw [← hs₂]
    exact hsteps
end
variable {p : Program} {l : Launch} {e : Env} {R : Room} {s : State} {m : MethodId} {args : Array Value} {below : List Frame} {meth : Method} {c : Code} {T : State} {H : Heap} {locs : List Loc} {cells slots : Nat}
theorem vx_callVX (X : Stand p l e R s m args below meth c T locs cells slots) (hexec : p.tables.exec = Jvm.exec) {own C : String} {index : Nat} {y : MethodName} {bytes : ByteArray} {maxL : Nat} {ret : Option FieldType} {hh : List (Nat × Nat × Nat × Nat)}
    (hown : s.vm.findClass own = some m.cls) (hlink : (Cond.methodLink own index y).before args s = true) (hinst : (Cond.instanceMethod y).before args s = true) (hsel : (Cond.selects C y y).before args s = true)
    (hcode : (Cond.codeWith y bytes maxL ret hh).before args s = true) (hy : y.cls ≠ "java/lang/invoke/MethodHandle" ∧ y.cls ≠ "java/lang/invoke/VarHandle")
    {W9 : Nat} {Pre : Pt → Array Value → Prop} {Post : Pt → Array Value → Option Value → Pt → Prop} {PostX : Pt → Array Value → Addr → Pt → Prop} (hK : vx_Back l R p e below s args y 3 W9 Pre Post PostX)
    {b : Addr} {cellB : Cell} (hcell : T.heap[b]? = some cellB) (hobj : cellB.vm.isStatics = false) (hcls : s.vm.findClass C = some cellB.cls)
    {g : JFrame} (hg : g.method = m) (hsize : g.locals.size = c.maxLocals) {argsL rest : List Value} (hlen : ∀ sig, parseMethodDescriptor y.desc = some sig → argsL.length = sig.parameters.length)
    (hstack : g.stack = argsL.reverse ++ .ref b :: rest) (hW : 2 * g.monitorRoom + (rest.map fun v => v.category).sum ≤ W9) (hdg : decode c.code g.pc = .ok (.invokevirtual index, 3))
    (hpre : ∀ vm₁, s.WarmedH vm₁ → Pre ⟨T.setVm vm₁, locs, cells, slots⟩ (Value.ref b :: argsL).toArray) :
    (∃ (v : Option Value) (vm₁ : Vm) (B : Pt), s.WarmedH vm₁ ∧ Stand p l e R s m args below meth c B.U B.locs B.cells B.slots ∧ Post ⟨T.setVm vm₁, locs, cells, slots⟩ (Value.ref b :: argsL).toArray v B ∧
      ∀ target, Steps p.tables e below (B.U.setTop { g with pc := g.pc + 3, stack := v.toList ++ rest }) target → Steps p.tables e below (T.setTop g) target) ∨
    (∃ (q : Addr) (vm₁ : Vm) (B : Pt), s.WarmedH vm₁ ∧ Stand p l e R s m args below meth c B.U B.locs B.cells B.slots ∧ PostX ⟨T.setVm vm₁, locs, cells, slots⟩ (Value.ref b :: argsL).toArray q B ∧
      Steps p.tables e below (T.setTop g) ((B.U.setTop { g with stack := rest }).pushFrame (.throwing q))) := by
  obtain ⟨mk, methM, hnamed, hmethM, hstM, habM⟩ := Cond.instanceMethod_spec hinst
  obtain ⟨m8, methM', cM, hn8, hmethM', -, -, -, -, -, -, hsigM⟩ := Cond.codeWith_spec hcode
  cases Option.some.inj (hn8.symm.trans hnamed)
  cases hmethM.symm.trans hmethM'
  obtain ⟨c2, r2, m2, q1, q2, q3, q4, kP, hkP, hkPi⟩ := Cond.selects_spec hsel
  cases hcls.symm.trans q1
  cases (State.methodFound?_of_named hnamed hy).symm.trans q2
  cases hnamed.symm.trans q3
  have hselP : selectMethod e.platform s.vm cellB.cls mk = .method mk := by rw [Launch.admits_selectMethod X.admits]; exact q4
  obtain ⟨vm₁, X₁, hstep₁⟩ := X.invokevirtual hexec hown hlink hnamed hmethM hstM hkP hkPi hy (a := b) (cell := cellB) hcell
    (fun z h => by rw [h] at hobj; cases hobj) hselP hmethM habM hkP hkPi (g := g) hg (argsL := argsL) (rest := rest) (hlen _ hsigM) hstack hdg
  rcases hK m meth c ⟨T.setVm vm₁, locs, cells, slots⟩ { g with stack := rest } (.invokevirtual index) mk (Value.ref b :: argsL).toArray X₁ hg hsize hdg hW (X₁.named hnamed) (hpre vm₁ X₁.warmed) with ⟨v, B, X', hpost, hsteps⟩ | ⟨q, B, X', hpost, hsteps⟩
  · exact Or.inl ⟨v, vm₁, B, X₁.warmed, X', hpost, fun target h => hstep₁ _ fun acts => by rw [doInvoke_state]; exact hsteps.trans h⟩
  · exact Or.inr ⟨q, vm₁, B, X₁.warmed, X', hpost, hstep₁ _ fun acts => by rw [doInvoke_state]; exact hsteps⟩
theorem vx_callSX (X : Stand p l e R s m args below meth c T locs cells slots) (hexec : p.tables.exec = Jvm.exec) {own : String} {index : Nat} {y : MethodName} {bytes : ByteArray} {maxL : Nat} {ret : Option FieldType} {hh : List (Nat × Nat × Nat × Nat)}
    (hown : s.vm.findClass own = some m.cls) (hlink : (Cond.methodLink own index y).before args s = true) (hstat : (Cond.static y).before args s = true) (hinit : (Cond.initialized y.cls).before args s = true)
    (hcode : (Cond.codeWith y bytes maxL ret hh).before args s = true) (hy : y.cls ≠ "java/lang/invoke/MethodHandle" ∧ y.cls ≠ "java/lang/invoke/VarHandle")
    {W9 : Nat} {Pre : Pt → Array Value → Prop} {Post : Pt → Array Value → Option Value → Pt → Prop} {PostX : Pt → Array Value → Addr → Pt → Prop} (hK : vx_Back l R p e below s args y 3 W9 Pre Post PostX)
    {g : JFrame} (hg : g.method = m) (hsize : g.locals.size = c.maxLocals) {argsL rest : List Value} (hlen : ∀ sig, parseMethodDescriptor y.desc = some sig → argsL.length = sig.parameters.length)
    (hstack : g.stack = argsL.reverse ++ rest) (hW : 2 * g.monitorRoom + (rest.map fun v => v.category).sum ≤ W9) (hdg : decode c.code g.pc = .ok (.invokestatic index, 3))
    (hpre : ∀ vm₁, s.WarmedH vm₁ → Pre ⟨T.setVm vm₁, locs, cells, slots⟩ argsL.toArray) :
    (∃ (v : Option Value) (vm₁ : Vm) (B : Pt), s.WarmedH vm₁ ∧ Stand p l e R s m args below meth c B.U B.locs B.cells B.slots ∧ Post ⟨T.setVm vm₁, locs, cells, slots⟩ argsL.toArray v B ∧
      ∀ target, Steps p.tables e below (B.U.setTop { g with pc := g.pc + 3, stack := v.toList ++ rest }) target → Steps p.tables e below (T.setTop g) target) ∨
    (∃ (q : Addr) (vm₁ : Vm) (B : Pt), s.WarmedH vm₁ ∧ Stand p l e R s m args below meth c B.U B.locs B.cells B.slots ∧ PostX ⟨T.setVm vm₁, locs, cells, slots⟩ argsL.toArray q B ∧
      Steps p.tables e below (T.setTop g) ((B.U.setTop { g with stack := rest }).pushFrame (.throwing q))) := by
  obtain ⟨mk, methM, cM, hnamed, hmethM, -, -, -, -, -, -, hsigM⟩ := Cond.codeWith_spec hcode
  have hstatic : methM.isStatic = true := Cond.static_spec hnamed hmethM hstat
  obtain ⟨kP, hkP, -⟩ := className_of_methodNamed hnamed
  have hinitP : kP.init = .initialized := Cond.initialized_spec (findClass_of_methodNamed hnamed) hkP hinit
  obtain ⟨vm₁, X₁, hstep₁⟩ := X.invokestatic hexec hown hlink hnamed hmethM hstatic hkP hinitP hy (g := g) hg (argsL := argsL) (rest := rest) (hlen _ hsigM) hstack hdg
  rcases hK m meth c ⟨T.setVm vm₁, locs, cells, slots⟩ { g with stack := rest } (.invokestatic index) mk argsL.toArray X₁ hg hsize hdg hW (X₁.named hnamed) (hpre vm₁ X₁.warmed) with ⟨v, B, X', hpost, hsteps⟩ | ⟨q, B, X', hpost, hsteps⟩
  · exact Or.inl ⟨v, vm₁, B, X₁.warmed, X', hpost, fun target h => hstep₁ _ fun acts => by rw [doInvoke_state]; exact hsteps.trans h⟩
  · exact Or.inr ⟨q, vm₁, B, X₁.warmed, X', hpost, hstep₁ _ fun acts => by rw [doInvoke_state]; exact hsteps⟩
theorem vx_callVW (X : Stand p l e R s m args below meth c T locs cells slots) (hexec : p.tables.exec = Jvm.exec) {own C : String} {index : Nat} {y : MethodName} {bytes : ByteArray} {maxL : Nat} {ret : Option FieldType} {hh : List (Nat × Nat × Nat × Nat)}
    (hown : s.vm.findClass own = some m.cls) (hlink : (Cond.methodLink own index y).before args s = true) (hinst : (Cond.instanceMethod y).before args s = true) (hsel : (Cond.selects C y y).before args s = true)
    (hcode : (Cond.codeWith y bytes maxL ret hh).before args s = true) (hy : y.cls ≠ "java/lang/invoke/MethodHandle" ∧ y.cls ≠ "java/lang/invoke/VarHandle")
    {W9 : Nat} {Pre : Pt → Array Value → Prop} {Post : Pt → Array Value → Option Value → Pt → Prop} (hK : Back l R p e below s args y 3 W9 Pre Post)
    {b : Addr} {cellB : Cell} (hcell : T.heap[b]? = some cellB) (hobj : cellB.vm.isStatics = false) (hcls : s.vm.findClass C = some cellB.cls)
    {g : JFrame} (hg : g.method = m) (hsize : g.locals.size = c.maxLocals) {argsL rest : List Value} (hlen : ∀ sig, parseMethodDescriptor y.desc = some sig → argsL.length = sig.parameters.length)
    (hstack : g.stack = argsL.reverse ++ .ref b :: rest) (hW : 2 * g.monitorRoom + (rest.map fun v => v.category).sum ≤ W9) (hdg : decode c.code g.pc = .ok (.invokevirtual index, 3))
    (hpre : ∀ vm₁, s.WarmedH vm₁ → Pre ⟨T.setVm vm₁, locs, cells, slots⟩ (Value.ref b :: argsL).toArray) :
    ∃ (v : Option Value) (vm₁ : Vm) (B : Pt), s.WarmedH vm₁ ∧ Stand p l e R s m args below meth c B.U B.locs B.cells B.slots ∧ Post ⟨T.setVm vm₁, locs, cells, slots⟩ (Value.ref b :: argsL).toArray v B ∧
      ∀ target, Steps p.tables e below (B.U.setTop { g with pc := g.pc + 3, stack := v.toList ++ rest }) target → Steps p.tables e below (T.setTop g) target := by
  obtain ⟨mk, methM, hnamed, hmethM, hstM, habM⟩ := Cond.instanceMethod_spec hinst
  obtain ⟨m8, methM', cM, hn8, hmethM', -, -, -, -, -, -, hsigM⟩ := Cond.codeWith_spec hcode
  cases Option.some.inj (hn8.symm.trans hnamed)
  cases hmethM.symm.trans hmethM'
  obtain ⟨c2, r2, m2, q1, q2, q3, q4, kP, hkP, hkPi⟩ := Cond.selects_spec hsel
  cases hcls.symm.trans q1
  cases (State.methodFound?_of_named hnamed hy).symm.trans q2
  cases hnamed.symm.trans q3
  have hselP : selectMethod e.platform s.vm cellB.cls mk = .method mk := by rw [Launch.admits_selectMethod X.admits]; exact q4
  obtain ⟨vm₁, X₁, hstep₁⟩ := X.invokevirtual hexec hown hlink hnamed hmethM hstM hkP hkPi hy (a := b) (cell := cellB) hcell
    (fun z h => by rw [h] at hobj; cases hobj) hselP hmethM habM hkP hkPi (g := g) hg (argsL := argsL) (rest := rest) (hlen _ hsigM) hstack hdg
  obtain ⟨v, B, X', hpost, hsteps⟩ := hK m meth c ⟨T.setVm vm₁, locs, cells, slots⟩ { g with stack := rest } (.invokevirtual index) mk (Value.ref b :: argsL).toArray X₁ hg hsize hdg hW (X₁.named hnamed) (hpre vm₁ X₁.warmed)
  exact ⟨v, vm₁, B, X₁.warmed, X', hpost, fun target h => hstep₁ _ fun acts => by rw [doInvoke_state]; exact hsteps.trans h⟩
abbrev vx_CVW (R : Room) (s : State) (args : Array Value) (own C : String) (index : Nat) (y : MethodName) (bytes : ByteArray) (maxL : Nat) (ret : Option FieldType) (hh : List (Nat × Nat × Nat × Nat)) (ws : List Cond) (rm : Room) (mc ms n : Nat) : Prop :=
  (rm.cells = mc ∧ rm.slots = ms ∧ rm.frames + 1 ≤ R.frames ∧ 8 + (maxL + 11) + rm.locals ≤ R.locals ∧ (∀ w ∈ ws, ∀ (a' : Array Value) (U : State), s.WarmedH U.vm → w.before a' U = true) ∧ Cond.codeWith y bytes maxL ret hh ∈ ws) ∧
  (Cond.codeWith y bytes maxL ret hh).before args s = true ∧ (Cond.initialized y.cls).before args s = true ∧ (y.cls ≠ "java/lang/invoke/MethodHandle" ∧ y.cls ≠ "java/lang/invoke/VarHandle") ∧
  (∀ sig, parseMethodDescriptor y.desc = some sig → n = sig.parameters.length) ∧ (Cond.methodLink own index y).before args s = true ∧ (Cond.instanceMethod y).before args s = true ∧ (Cond.selects C y y).before args s = true
theorem vx_cwVW {own C : String} {index maxL mc ms : Nat} {y : MethodName} {bytes : ByteArray} {ret : Option FieldType} {hh : List (Nat × Nat × Nat × Nat)} {Ts ws ws' : List Cond} {rm : Room} (n : Nat) (ht : ∀ w ∈ Ts, w.before args s = true) (hT : GoodIn Ts (wsV own index C y ws)) (hw : ws = Cond.codeWith y bytes maxL ret hh :: ws') (hrc : rm.cells = mc) (hrs : rm.slots = ms)
    (hd : y.cls = C ∧ y.cls ≠ "java/lang/invoke/MethodHandle" ∧ y.cls ≠ "java/lang/invoke/VarHandle" ∧ (parseMethodDescriptor y.desc).map (fun d => d.parameters.length) = some n) (hR : rm.frames + 1 ≤ R.frames ∧ 8 + (maxL + 11) + rm.locals ≤ R.locals) :
    vx_CVW R s args own C index y bytes maxL ret hh ws rm mc ms n := by
  obtain ⟨hC, hd⟩ := hd
  subst hC
  have ok : ∀ w ∈ wsV own index y.cls y ws, w.before args s = true := fun w h => ht w (hT w h).1
  have hG : GoodIn Ts ws := fun w h => hT w (by unfold wsV; exact List.mem_append_right _ h)
  have hc : Cond.codeWith y bytes maxL ret hh ∈ ws := by rw [hw]; exact List.mem_cons_self
  refine ⟨⟨hrc, hrs, hR.1, hR.2, pay_in ht hG, hc⟩, ht _ (hG _ hc).1, ok _ (by simp [wsV]), ⟨hd.1, hd.2.1⟩, fun sig h => ?_, ok _ (by simp [wsV]), ok _ (by simp [wsV]), ok _ (by simp [wsV])⟩
  have h2 := hd.2.2
  rw [h] at h2
  exact (Option.some.inj h2).symm
theorem vx_runVW {y : MethodName} {bytes cc : ByteArray} {maxL nL mc ms n index : Nat} {ret : Option FieldType} {hh : List (Nat × Nat × Nat × Nat)} {ws : List Cond} {rm : Room} {Pc : Array Value → State → Prop} {Qc : Array Value → State → Outcome → State → Prop} {free : Addr → Prop} {Ts : List Cond} {own C : String} {b : Addr} {As rest : List Value} {g : JFrame}
    (S : CallFix p m c cc nL s args Ts own) (hM : Met l y ws rm Pc Qc mc ms free) (cw : vx_CVW R s args own C index y bytes maxL ret hh ws rm mc ms n) (hp : PreV s H C b Pc As)
    (hg : g.method = m) (hn : As.length = n) (hsize : g.locals.size = nL) (hstack : g.stack = As.reverse ++ .ref b :: rest) (hW : 2 * g.monitorRoom + (rest.map fun v => v.category).sum ≤ 8) (hdg : decode cc g.pc = .ok (.invokevirtual index, 3)) (hf : cells + mc ≤ R.cells ∧ slots + ms ≤ R.slots) :
    va_Run p l e R s m args below meth c H locs cells slots mc ms g rest (Qc (Value.ref b :: As).toArray) free := by
  obtain ⟨⟨hrc, hrs, hfr, hlo, hws, hcw⟩, hcode, hini, hy, hlen, hl, hin, hse⟩ := cw
  have hK : Back l R p e below s args y 3 8 (PreOf R mc ms Pc) (PostOf Qc mc ms free) := va_backW (hh := hh) (bytes := bytes) (maxL := maxL) (ret := ret) hM hp.1 hrc hrs hfr hlo hws hcw (fun a' U hW => word_at hW (Or.inl (by first | rfl | simp [Cond.onTables, Cond.keeps, Cond.steady])) hini)
  obtain ⟨hx, hb, hml, ho, -⟩ := S
  obtain ⟨-, ⟨cellB, hcB, hoB, hclB⟩, hPc⟩ := hp
  intro T hT X
  obtain ⟨v, vm₁, ⟨U', l2, c2, s2⟩, hW₁, X', ⟨g', mk, t, L, e1, e2, hq, h1, hL, h2, h3⟩, st⟩ := vx_callVW X hx (C := C) (hh := hh) (bytes := bytes) (maxL := maxL) (ret := ret) ho hl hin hse hcode hy hK (by rw [hT]; exact hcB) hoB hclB hg (hsize.trans hml.symm) (argsL := As) (rest := rest) (fun sig h => hn.trans (hlen sig h)) hstack hW (by rw [hb]; exact hdg)
    (fun vm₁ hW₁ => ⟨hf.1, hf.2, hPc (T.setVm vm₁) hT hW₁⟩)
  dsimp only [Pt.U, Pt.locs, Pt.cells, Pt.slots] at X' e1 e2 h1 h2 h3 st
  subst h1; subst h2; subst h3
  exact ⟨v, (T.setVm vm₁).calling g' mk (Value.ref b :: As).toArray, t, U', L, hT, X', hL, e1, e2, hq, st⟩
section
variable {y : MethodName} {bytes cc : ByteArray} {maxL nL mc ms n index : Nat} {ret : Option FieldType} {ws : List Cond} {rm : Room} {Pc : Array Value → State → Prop} {Qc : Array Value → State → Outcome → State → Prop} {XC : String → State → State → Prop} {free : Addr → Prop} {Ts : List Cond} {own C : String} {b : Addr} {As rest : List Value} {g : JFrame}
theorem vx_runVX {hh : List (Nat × Nat × Nat × Nat)} (S : CallFix p m c cc nL s args Ts own) (hM : vx_Met l y ws rm Pc Qc XC mc ms free) (cw : vx_CVW R s args own C index y bytes maxL ret hh ws rm mc ms n) (hp : PreV s H C b Pc As)
    (hg : g.method = m) (hn : As.length = n) (hsize : g.locals.size = nL) (hstack : g.stack = As.reverse ++ .ref b :: rest) (hW : 2 * g.monitorRoom + (rest.map fun v => v.category).sum ≤ 8) (hdg : decode cc g.pc = .ok (.invokevirtual index, 3)) (hf : cells + mc ≤ R.cells ∧ slots + ms ≤ R.slots) :
    vx_Run p l e R s m args below meth c H locs cells slots mc ms g rest (Qc (Value.ref b :: As).toArray) XC free := by
  obtain ⟨⟨hrc, hrs, hfr, hlo, hws, hcw⟩, hcode, hini, hy, hlen, hl, hin, hse⟩ := cw
  have hK : vx_Back l R p e below s args y 3 8 (PreOf R mc ms Pc) (PostOf Qc mc ms free) (vx_Post XC mc ms free) := vx_backW (hh := hh) (bytes := bytes) (maxL := maxL) (ret := ret) hM hp.1 hrc hrs hfr hlo hws hcw (fun a' U hW => word_at hW (Or.inl (by first | rfl | simp [Cond.onTables, Cond.keeps, Cond.steady])) hini)
  obtain ⟨hx, hb, hml, ho, -⟩ := S
  obtain ⟨-, ⟨cellB, hcB, hoB, hclB⟩, hPc⟩ := hp
  intro T hT X
  rcases vx_callVX X hx (C := C) (hh := hh) (bytes := bytes) (maxL := maxL) (ret := ret) ho hl hin hse hcode hy hK (by rw [hT]; exact hcB) hoB hclB hg (hsize.trans hml.symm) (argsL := As) (rest := rest) (fun sig h => hn.trans (hlen sig h)) hstack hW (by rw [hb]; exact hdg)
    (fun vm₁ hW₁ => ⟨hf.1, hf.2, hPc (T.setVm vm₁) hT hW₁⟩) with ⟨v, vm₁, ⟨U', l2, c2, s2⟩, hW₁, X', ⟨g', mk, t, L, e1, e2, hq, h1, hL, h2, h3⟩, st⟩ | ⟨q, vm₁, ⟨U', l2, c2, s2⟩, hW₁, X', ⟨g', mk, t, L, E, ce, e1, e2, hq, hce, hcv, hcl, h1, hL, h2, h3⟩, st⟩
  · dsimp only [Pt.U, Pt.locs, Pt.cells, Pt.slots] at X' e1 e2 h1 h2 h3 st
    subst h1; subst h2; subst h3
    exact Or.inl ⟨v, (T.setVm vm₁).calling g' mk (Value.ref b :: As).toArray, t, U', L, hT, X', hL, e1, e2, hq, st⟩
  · dsimp only [Pt.U, Pt.locs, Pt.cells, Pt.slots] at X' e1 e2 h1 h2 h3 st hcl
    subst h1; subst h2; subst h3
    exact Or.inr ⟨q, (T.setVm vm₁).calling g' mk (Value.ref b :: As).toArray, t, U', L, E, ce, hT, X', hL, e1, e2, hq, hce, hcv, vx_cls hW₁ hcl, st⟩
theorem vx_runSX {hh : List (Nat × Nat × Nat × Nat)} (S : CallFix p m c cc nL s args Ts own) (hM : vx_Met l y ws rm Pc Qc XC mc ms free) (cw : vx_CSW R s args own index y bytes maxL ret hh ws rm mc ms n) (hp : PreS s H Pc As)
    (hg : g.method = m) (hn : As.length = n) (hsize : g.locals.size = nL) (hstack : g.stack = As.reverse ++ rest) (hW : 2 * g.monitorRoom + (rest.map fun v => v.category).sum ≤ 8) (hdg : decode cc g.pc = .ok (.invokestatic index, 3)) (hf : cells + mc ≤ R.cells ∧ slots + ms ≤ R.slots) :
    vx_Run p l e R s m args below meth c H locs cells slots mc ms g rest (Qc As.toArray) XC free := by
  obtain ⟨⟨hrc, hrs, hfr, hlo, hws, hcw⟩, hcode, hini, hy, hlen, hl, hstt⟩ := cw
  have hK : vx_Back l R p e below s args y 3 8 (PreOf R mc ms Pc) (PostOf Qc mc ms free) (vx_Post XC mc ms free) := vx_backW (hh := hh) (bytes := bytes) (maxL := maxL) (ret := ret) hM hp.1 hrc hrs hfr hlo hws hcw (fun a' U hW => word_at hW (Or.inl (by first | rfl | simp [Cond.onTables, Cond.keeps, Cond.steady])) hini)
  obtain ⟨hx, hb, hml, ho, -⟩ := S
  intro T hT X
  rcases vx_callSX X hx (hh := hh) (bytes := bytes) (maxL := maxL) (ret := ret) ho hl hstt hini hcode hy hK hg (hsize.trans hml.symm) (argsL := As) (rest := rest) (fun sig h => hn.trans (hlen sig h)) hstack hW (by rw [hb]; exact hdg)
    (fun vm₁ hW₁ => ⟨hf.1, hf.2, hp.2 (T.setVm vm₁) hT hW₁⟩) with ⟨v, vm₁, ⟨U', l2, c2, s2⟩, hW₁, X', ⟨g', mk, t, L, e1, e2, hq, h1, hL, h2, h3⟩, st⟩ | ⟨q, vm₁, ⟨U', l2, c2, s2⟩, hW₁, X', ⟨g', mk, t, L, E, ce, e1, e2, hq, hce, hcv, hcl, h1, hL, h2, h3⟩, st⟩
  · dsimp only [Pt.U, Pt.locs, Pt.cells, Pt.slots] at X' e1 e2 h1 h2 h3 st
    subst h1; subst h2; subst h3
    exact Or.inl ⟨v, (T.setVm vm₁).calling g' mk As.toArray, t, U', L, hT, X', hL, e1, e2, hq, st⟩
  · dsimp only [Pt.U, Pt.locs, Pt.cells, Pt.slots] at X' e1 e2 h1 h2 h3 st hcl
    subst h1; subst h2; subst h3
    exact Or.inr ⟨q, (T.setVm vm₁).calling g' mk As.toArray, t, U', L, E, ce, hT, X', hL, e1, e2, hq, hce, hcv, vx_cls hW₁ hcl, st⟩
end
end VXH
theorem vx_ofWH {l : Launch} {y : MethodName} {ws ws' : List Cond} {rm : Room} {Pc : Array Value → State → Prop} {Qc : Array Value → State → Outcome → State → Prop} {XC : String → State → State → Prop} {mc ms : Nat} {free : Addr → Prop} {cc : ByteArray} {maxL : Nat} {ret : Option FieldType} {hh : List (Nat × Nat × Nat × Nat)}
    (hy : plainName y.cls = true) (hw : ws = Cond.codeWith y cc maxL ret hh :: ws')
    (body : ∀ p e s m args below meth c s₁, BodyLoose p l y (headSpec ws rm) cc maxL ret e s m args below meth c s₁ → c.maxLocals = maxL → Pc args s →
      W p l e (headSpec ws rm).room s m args below meth c s.heap [] 0 0 (vx_MQ below Qc XC args s mc ms free) (entryFrame m args maxL)) : vx_Met l y ws rm Pc Qc XC mc ms free := by
  refine MetFree.of_bodyS (code := cc) (maxLocals := maxL) (ret := ret) hy ?_ ?_
  · intro args s m h hn
    obtain ⟨m9, meth, c, hn9, h1, h2, h3, h4, -, h5, h6, -⟩ := Cond.codeWith_spec (atoms_spec (ws := ws) h _ (by rw [hw]; exact List.mem_cons_self))
    cases hn.symm.trans hn9
    exact ⟨meth, c, h1, h2, h3, h4, h5, h6⟩
  · intro p e s m args below meth c s₁ B hml hP _
    have hh0 : s₁.heap = s.heap := by rw [B.state]; rfl
    obtain ⟨t, a1, o, b1, b2, b3⟩ := body p e s m args below meth c s₁ B hml hP s₁ hh0 (Stand.of_body B)
    exact ⟨t, o, a1, b1, b2, b3⟩
/-! ===== END ===== -/
end
section
/-! ===== BEGIN printed: names, fields, word lists, decode rows ===== -/
def RX0 : String := "DeliveryBasket$Bond"
def TX0 : u_T := fun k => match k with
  | 0 => ("DeliveryBasket$Bond", "kind", "I", false)
  | 1 => ("DeliveryBasket$Bond", "coupon", "I", false)
  | 2 => ("DeliveryBasket$Bond", "periods", "I", false)
  | 3 => ("DeliveryBasket$Bond", "extra", "I", false)
  | 4 => ("DeliveryBasket$Bond", "spread", "I", false)
  | 5 => ("DeliveryBasket$Bond", "stock", "I", false)
  | 6 => ("DeliveryBasket$Bond", "barred", "I", false)
  | 7 => ("DeliveryBasket$Bond", "factor", "I", false)
  | 8 => ("DeliveryBasket$Bond", "flows", "[I", true)
  | _ => ("DeliveryBasket$Bond", "worths", "[I", false)
def tyX0 : Nat → FieldType := fun k => match k with
  | 0 => .int
  | 1 => .int
  | 2 => .int
  | 3 => .int
  | 4 => .int
  | 5 => .int
  | 6 => .int
  | 7 => .int
  | 8 => .array .int
  | _ => .array .int
abbrev wsX00 : List Cond := u_ws RX0 TX0 10
theorem nmX0 : ∀ a, a < 10 → ∀ b, b < 10 → a ≠ b → (TX0 a).2.1 ≠ (TX0 b).2.1 := by decide +kernel
theorem tyX0_ok : ∀ k, k < 10 → parseFieldDescriptor (TX0 k).2.2.1 = some (tyX0 k) := by decide +kernel
abbrev cX0_init : ByteArray := prog_2_method_1_code
def yX0_init : MethodName := ⟨RX0, "<init>", "()V"⟩
abbrev cX0_become : ByteArray := prog_2_method_2_code
def yX0_become : MethodName := ⟨RX0, "become", "(IIIII)V"⟩
abbrev cX0_layFlows : ByteArray := prog_2_method_3_code
def yX0_layFlows : MethodName := ⟨RX0, "layFlows", "()V"⟩
abbrev cX0_couponIn : ByteArray := prog_2_method_4_code
def yX0_couponIn : MethodName := ⟨RX0, "couponIn", "(I)I"⟩
abbrev cX0_paidBack : ByteArray := prog_2_method_5_code
def yX0_paidBack : MethodName := ⟨RX0, "paidBack", "(II)I"⟩
abbrev cX0_changeSpread : ByteArray := prog_2_method_6_code
def yX0_changeSpread : MethodName := ⟨RX0, "changeSpread", "(I)Z"⟩
abbrev cX0_changeStock : ByteArray := prog_2_method_7_code
def yX0_changeStock : MethodName := ⟨RX0, "changeStock", "(I)Z"⟩
abbrev cX0_changeBarred : ByteArray := prog_2_method_8_code
def yX0_changeBarred : MethodName := ⟨RX0, "changeBarred", "(I)Z"⟩
abbrev cX0_factorBy : ByteArray := prog_2_method_9_code
def yX0_factorBy : MethodName := ⟨RX0, "factorBy", "(I)V"⟩
abbrev cX0_priceAt : ByteArray := prog_2_method_10_code
def yX0_priceAt : MethodName := ⟨RX0, "priceAt", "(I)I"⟩
abbrev cX0_invoiceBy : ByteArray := prog_2_method_11_code
def yX0_invoiceBy : MethodName := ⟨RX0, "invoiceBy", "(J)J"⟩
abbrev cX0_keepWorths : ByteArray := prog_2_method_12_code
def yX0_keepWorths : MethodName := ⟨RX0, "keepWorths", "()V"⟩
abbrev cX0_worthAt : ByteArray := prog_2_method_13_code
def yX0_worthAt : MethodName := ⟨RX0, "worthAt", "(I)I"⟩
abbrev cX0_discounted : ByteArray := prog_2_method_14_code
def yX0_discounted : MethodName := ⟨RX0, "discounted", "(I)I"⟩
def RX1 : String := "DeliveryBasket$Lattice"
def TX1 : u_T := fun k => match k with
  | 0 => ("DeliveryBasket$Lattice", "days", "I", false)
  | 1 => ("DeliveryBasket$Lattice", "start", "I", false)
  | 2 => ("DeliveryBasket$Lattice", "jump", "I", false)
  | 3 => ("DeliveryBasket$Lattice", "carry", "I", false)
  | 4 => ("DeliveryBasket$Lattice", "agreed", "I", false)
  | 5 => ("DeliveryBasket$Lattice", "values", "[[J", true)
  | 6 => ("DeliveryBasket$Lattice", "acts", "[[I", true)
  | 7 => ("DeliveryBasket$Lattice", "levelPrices", "[[I", true)
  | 8 => ("DeliveryBasket$Lattice", "levelNow", "[J", true)
  | 9 => ("DeliveryBasket$Lattice", "levelPick", "[I", true)
  | 10 => ("DeliveryBasket$Lattice", "invoices", "[J", true)
  | _ => ("DeliveryBasket$Lattice", "ways", "[I", true)
def tyX1 : Nat → FieldType := fun k => match k with
  | 0 => .int
  | 1 => .int
  | 2 => .int
  | 3 => .int
  | 4 => .int
  | 5 => .array (.array .long)
  | 6 => .array (.array .int)
  | 7 => .array (.array .int)
  | 8 => .array .long
  | 9 => .array .int
  | 10 => .array .long
  | _ => .array .int
abbrev wsX10 : List Cond := u_ws RX1 TX1 12
theorem nmX1 : ∀ a, a < 12 → ∀ b, b < 12 → a ≠ b → (TX1 a).2.1 ≠ (TX1 b).2.1 := by decide +kernel
theorem tyX1_ok : ∀ k, k < 12 → parseFieldDescriptor (TX1 k).2.2.1 = some (tyX1 k) := by decide +kernel
abbrev cX1_init : ByteArray := prog_3_method_1_code
def yX1_init : MethodName := ⟨RX1, "<init>", "()V"⟩
abbrev cX1_change : ByteArray := prog_3_method_2_code
def yX1_change : MethodName := ⟨RX1, "change", "(IIIII)Z"⟩
abbrev cX1_hasDay : ByteArray := prog_3_method_3_code
def yX1_hasDay : MethodName := ⟨RX1, "hasDay", "(I)Z"⟩
abbrev cX1_hasNode : ByteArray := prog_3_method_4_code
def yX1_hasNode : MethodName := ⟨RX1, "hasNode", "(II)Z"⟩
abbrev cX1_level : ByteArray := prog_3_method_5_code
def yX1_level : MethodName := ⟨RX1, "level", "(II)I"⟩
abbrev cX1_rateAt : ByteArray := prog_3_method_6_code
def yX1_rateAt : MethodName := ⟨RX1, "rateAt", "(I)I"⟩
abbrev cX1_layPrices : ByteArray := prog_3_method_7_code
def yX1_layPrices : MethodName := ⟨RX1, "layPrices", "([LDeliveryBasket$Bond;I)V"⟩
abbrev cX1_layNow : ByteArray := prog_3_method_8_code
def yX1_layNow : MethodName := ⟨RX1, "layNow", "([LDeliveryBasket$Bond;II)V"⟩
abbrev cX1_bestOn : ByteArray := prog_3_method_9_code
def yX1_bestOn : MethodName := ⟨RX1, "bestOn", "(II)I"⟩
abbrev cX1_rollBack : ByteArray := prog_3_method_10_code
def yX1_rollBack : MethodName := ⟨RX1, "rollBack", "(IZ)J"⟩
abbrev cX1_deliverAt : ByteArray := prog_3_method_11_code
def yX1_deliverAt : MethodName := ⟨RX1, "deliverAt", "(II)V"⟩
abbrev cX1_pathsThatEndOn : ByteArray := prog_3_method_12_code
def yX1_pathsThatEndOn : MethodName := ⟨RX1, "pathsThatEndOn", "(I)I"⟩
def RX2 : String := "DeliveryBasket"
def TX2 : u_T := fun k => match k with
  | 0 => ("DeliveryBasket", "bonds", "[LDeliveryBasket$Bond;", true)
  | 1 => ("DeliveryBasket", "size", "I", false)
  | 2 => ("DeliveryBasket", "notional", "I", false)
  | 3 => ("DeliveryBasket", "least", "I", false)
  | 4 => ("DeliveryBasket", "most", "I", false)
  | 5 => ("DeliveryBasket", "lattice", "LDeliveryBasket$Lattice;", true)
  | 6 => ("DeliveryBasket", "prices", "[I", true)
  | 7 => ("DeliveryBasket", "costs", "[J", true)
  | _ => ("DeliveryBasket", "taken", "[I", true)
def tyX2 : Nat → FieldType := fun k => match k with
  | 0 => .array (.object "DeliveryBasket$Bond")
  | 1 => .int
  | 2 => .int
  | 3 => .int
  | 4 => .int
  | 5 => .object "DeliveryBasket$Lattice"
  | 6 => .array .int
  | 7 => .array .long
  | _ => .array .int
abbrev wsX20 : List Cond := u_ws RX2 TX2 9
theorem nmX2 : ∀ a, a < 9 → ∀ b, b < 9 → a ≠ b → (TX2 a).2.1 ≠ (TX2 b).2.1 := by decide +kernel
theorem tyX2_ok : ∀ k, k < 9 → parseFieldDescriptor (TX2 k).2.2.1 = some (tyX2 k) := by decide +kernel
abbrev cX2_init : ByteArray := prog_1_method_1_code
def yX2_init : MethodName := ⟨RX2, "<init>", "()V"⟩
abbrev cX2_bond : ByteArray := prog_1_method_2_code
def yX2_bond : MethodName := ⟨RX2, "bond", "(IIIII)I"⟩
abbrev cX2_drop : ByteArray := prog_1_method_3_code
def yX2_drop : MethodName := ⟨RX2, "drop", "(I)I"⟩
abbrev cX2_alter : ByteArray := prog_1_method_4_code
def yX2_alter : MethodName := ⟨RX2, "alter", "(III)Z"⟩
abbrev cX2_of : ByteArray := prog_1_method_5_code
def yX2_of : MethodName := ⟨RX2, "of", "(II)I"⟩
abbrev cX2_flow : ByteArray := prog_1_method_6_code
def yX2_flow : MethodName := ⟨RX2, "flow", "(II)I"⟩
abbrev cX2_price : ByteArray := prog_1_method_7_code
def yX2_price : MethodName := ⟨RX2, "price", "(II)I"⟩
abbrev cX2_rateOf : ByteArray := prog_1_method_8_code
def yX2_rateOf : MethodName := ⟨RX2, "rateOf", "(II)I"⟩
abbrev cX2_contract : ByteArray := prog_1_method_9_code
def yX2_contract : MethodName := ⟨RX2, "contract", "(III)Z"⟩
abbrev cX2_count : ByteArray := prog_1_method_10_code
def yX2_count : MethodName := ⟨RX2, "count", "(I)I"⟩
abbrev cX2_cheapest : ByteArray := prog_1_method_11_code
def yX2_cheapest : MethodName := ⟨RX2, "cheapest", "(I)I"⟩
abbrev cX2_ranked : ByteArray := prog_1_method_12_code
def yX2_ranked : MethodName := ⟨RX2, "ranked", "(II)I"⟩
abbrev cX2_mark : ByteArray := prog_1_method_13_code
def yX2_mark : MethodName := ⟨RX2, "mark", "(I)J"⟩
abbrev cX2_gap : ByteArray := prog_1_method_14_code
def yX2_gap : MethodName := ⟨RX2, "gap", "(II)J"⟩
abbrev cX2_switches : ByteArray := prog_1_method_15_code
def yX2_switches : MethodName := ⟨RX2, "switches", "(III)I"⟩
abbrev cX2_implied : ByteArray := prog_1_method_16_code
def yX2_implied : MethodName := ⟨RX2, "implied", "(J)I"⟩
abbrev cX2_meet : ByteArray := prog_1_method_17_code
def yX2_meet : MethodName := ⟨RX2, "meet", "(IIII)I"⟩
abbrev cX2_cost : ByteArray := prog_1_method_18_code
def yX2_cost : MethodName := ⟨RX2, "cost", "(III)J"⟩
abbrev cX2_tree : ByteArray := prog_1_method_19_code
def yX2_tree : MethodName := ⟨RX2, "tree", "(IIIII)Z"⟩
abbrev cX2_rate : ByteArray := prog_1_method_20_code
def yX2_rate : MethodName := ⟨RX2, "rate", "(II)I"⟩
abbrev cX2_value : ByteArray := prog_1_method_21_code
def yX2_value : MethodName := ⟨RX2, "value", "(II)J"⟩
abbrev cX2_act : ByteArray := prog_1_method_22_code
def yX2_act : MethodName := ⟨RX2, "act", "(II)I"⟩
abbrev cX2_path : ByteArray := prog_1_method_23_code
def yX2_path : MethodName := ⟨RX2, "path", "(IZ)I"⟩
abbrev cX2_often : ByteArray := prog_1_method_24_code
def yX2_often : MethodName := ⟨RX2, "often", "(I)I"⟩
abbrev cX2_fixed : ByteArray := prog_1_method_25_code
def yX2_fixed : MethodName := ⟨RX2, "fixed", "(I)J"⟩
abbrev cX2_only : ByteArray := prog_1_method_26_code
def yX2_only : MethodName := ⟨RX2, "only", "(I)J"⟩
abbrev cX2_without : ByteArray := prog_1_method_27_code
def yX2_without : MethodName := ⟨RX2, "without", "(I)J"⟩
abbrev cX2_fair : ByteArray := prog_1_method_28_code
def yX2_fair : MethodName := ⟨RX2, "fair", "()I"⟩
abbrev cX2_within : ByteArray := prog_1_method_29_code
def yX2_within : MethodName := ⟨RX2, "within", "(III)Z"⟩
abbrev cX2_isRate : ByteArray := prog_1_method_30_code
def yX2_isRate : MethodName := ⟨RX2, "isRate", "(I)Z"⟩
abbrev cX2_isIn : ByteArray := prog_1_method_31_code
def yX2_isIn : MethodName := ⟨RX2, "isIn", "(II)Z"⟩
abbrev cX2_canBe : ByteArray := prog_1_method_32_code
def yX2_canBe : MethodName := ⟨RX2, "canBe", "(IIII)Z"⟩
abbrev cX2_has : ByteArray := prog_1_method_33_code
def yX2_has : MethodName := ⟨RX2, "has", "(I)Z"⟩
abbrev cX2_isEligible : ByteArray := prog_1_method_34_code
def yX2_isEligible : MethodName := ⟨RX2, "isEligible", "(I)Z"⟩
abbrev cX2_eligibleBits : ByteArray := prog_1_method_35_code
def yX2_eligibleBits : MethodName := ⟨RX2, "eligibleBits", "()I"⟩
abbrev cX2_eligibleStock : ByteArray := prog_1_method_36_code
def yX2_eligibleStock : MethodName := ⟨RX2, "eligibleStock", "()I"⟩
abbrev cX2_keepWorths : ByteArray := prog_1_method_37_code
def yX2_keepWorths : MethodName := ⟨RX2, "keepWorths", "(I)V"⟩
abbrev cX2_layPrices : ByteArray := prog_1_method_38_code
def yX2_layPrices : MethodName := ⟨RX2, "layPrices", "(II)V"⟩
abbrev cX2_comesAhead : ByteArray := prog_1_method_39_code
def yX2_comesAhead : MethodName := ⟨RX2, "comesAhead", "(II)Z"⟩
abbrev cX2_howManyAhead : ByteArray := prog_1_method_40_code
def yX2_howManyAhead : MethodName := ⟨RX2, "howManyAhead", "(II)I"⟩
abbrev cX2_cheapestAt : ByteArray := prog_1_method_41_code
def yX2_cheapestAt : MethodName := ⟨RX2, "cheapestAt", "(II)I"⟩
abbrev cX2_markAt : ByteArray := prog_1_method_42_code
def yX2_markAt : MethodName := ⟨RX2, "markAt", "(II)J"⟩
abbrev cX2_canAsk : ByteArray := prog_1_method_43_code
def yX2_canAsk : MethodName := ⟨RX2, "canAsk", "(III)Z"⟩
abbrev cX2_takeCheapest : ByteArray := prog_1_method_44_code
def yX2_takeCheapest : MethodName := ⟨RX2, "takeCheapest", "(III)Z"⟩
abbrev cX2_leastCost : ByteArray := prog_1_method_45_code
def yX2_leastCost : MethodName := ⟨RX2, "leastCost", "(I)I"⟩
abbrev cX2_valueBy : ByteArray := prog_1_method_46_code
def yX2_valueBy : MethodName := ⟨RX2, "valueBy", "(I)J"⟩
def RX3 : String := "DeliveryBasketModel"
def TX3 : u_T := fun k => match k with
  | 0 => ("DeliveryBasketModel", "bond", "[I", true)
  | 1 => ("DeliveryBasketModel", "many", "I", false)
  | 2 => ("DeliveryBasketModel", "notional", "I", false)
  | 3 => ("DeliveryBasketModel", "least", "I", false)
  | 4 => ("DeliveryBasketModel", "most", "I", false)
  | 5 => ("DeliveryBasketModel", "days", "I", false)
  | 6 => ("DeliveryBasketModel", "start", "I", false)
  | 7 => ("DeliveryBasketModel", "jump", "I", false)
  | 8 => ("DeliveryBasketModel", "carry", "I", false)
  | 9 => ("DeliveryBasketModel", "agreed", "I", false)
  | 10 => ("DeliveryBasketModel", "thrown", "I", false)
  | 11 => ("DeliveryBasketModel", "alone", "I", false)
  | 12 => ("DeliveryBasketModel", "but", "I", false)
  | 13 => ("DeliveryBasketModel", "given", "[I", true)
  | 14 => ("DeliveryBasketModel", "costs", "[J", true)
  | 15 => ("DeliveryBasketModel", "value", "[J", true)
  | 16 => ("DeliveryBasketModel", "nows", "[J", true)
  | 17 => ("DeliveryBasketModel", "waits", "[J", true)
  | 18 => ("DeliveryBasketModel", "bonds", "[I", true)
  | _ => ("DeliveryBasketModel", "ways", "[I", true)
def tyX3 : Nat → FieldType := fun k => match k with
  | 0 => .array .int
  | 1 => .int
  | 2 => .int
  | 3 => .int
  | 4 => .int
  | 5 => .int
  | 6 => .int
  | 7 => .int
  | 8 => .int
  | 9 => .int
  | 10 => .int
  | 11 => .int
  | 12 => .int
  | 13 => .array .int
  | 14 => .array .long
  | 15 => .array .long
  | 16 => .array .long
  | 17 => .array .long
  | 18 => .array .int
  | _ => .array .int
abbrev wsX30 : List Cond := u_ws RX3 TX3 20
theorem nmX3 : ∀ a, a < 20 → ∀ b, b < 20 → a ≠ b → (TX3 a).2.1 ≠ (TX3 b).2.1 := by decide +kernel
theorem tyX3_ok : ∀ k, k < 20 → parseFieldDescriptor (TX3 k).2.2.1 = some (tyX3 k) := by decide +kernel
abbrev cX3_init : ByteArray := prog_5_method_1_code
def yX3_init : MethodName := ⟨RX3, "<init>", "()V"⟩
abbrev cX3_thrown : ByteArray := prog_5_method_2_code
def yX3_thrown : MethodName := ⟨RX3, "thrown", "()I"⟩
abbrev cX3_isIn : ByteArray := prog_5_method_3_code
def yX3_isIn : MethodName := ⟨RX3, "isIn", "(JJJ)Z"⟩
abbrev cX3_down : ByteArray := prog_5_method_4_code
def yX3_down : MethodName := ⟨RX3, "down", "(JJ)J"⟩
abbrev cX3_refuse : ByteArray := prog_5_method_5_code
def yX3_refuse : MethodName := ⟨RX3, "refuse", "()I"⟩
abbrev cX3_isBond : ByteArray := prog_5_method_6_code
def yX3_isBond : MethodName := ⟨RX3, "isBond", "(I)Z"⟩
abbrev cX3_of1 : ByteArray := prog_5_method_7_code
def yX3_of1 : MethodName := ⟨RX3, "of1", "(II)I"⟩
abbrev cX3_isGood : ByteArray := prog_5_method_8_code
def yX3_isGood : MethodName := ⟨RX3, "isGood", "(IIIII)Z"⟩
abbrev cX3_bond : ByteArray := prog_5_method_9_code
def yX3_bond : MethodName := ⟨RX3, "bond", "(IIIII)I"⟩
abbrev cX3_drop : ByteArray := prog_5_method_10_code
def yX3_drop : MethodName := ⟨RX3, "drop", "(I)I"⟩
abbrev cX3_alter : ByteArray := prog_5_method_11_code
def yX3_alter : MethodName := ⟨RX3, "alter", "(III)Z"⟩
abbrev cX3_owed : ByteArray := prog_5_method_12_code
def yX3_owed : MethodName := ⟨RX3, "owed", "(II)J"⟩
abbrev cX3_back : ByteArray := prog_5_method_13_code
def yX3_back : MethodName := ⟨RX3, "back", "(II)J"⟩
abbrev cX3_flow1 : ByteArray := prog_5_method_14_code
def yX3_flow1 : MethodName := ⟨RX3, "flow1", "(II)J"⟩
abbrev cX3_worth : ByteArray := prog_5_method_15_code
def yX3_worth : MethodName := ⟨RX3, "worth", "(II)J"⟩
abbrev cX3_price1 : ByteArray := prog_5_method_16_code
def yX3_price1 : MethodName := ⟨RX3, "price1", "(II)J"⟩
abbrev cX3_factor : ByteArray := prog_5_method_17_code
def yX3_factor : MethodName := ⟨RX3, "factor", "(I)J"⟩
abbrev cX3_isEligible : ByteArray := prog_5_method_18_code
def yX3_isEligible : MethodName := ⟨RX3, "isEligible", "(I)Z"⟩
abbrev cX3_eligible : ByteArray := prog_5_method_19_code
def yX3_eligible : MethodName := ⟨RX3, "eligible", "()I"⟩
abbrev cX3_isAny : ByteArray := prog_5_method_20_code
def yX3_isAny : MethodName := ⟨RX3, "isAny", "()Z"⟩
abbrev cX3_of : ByteArray := prog_5_method_21_code
def yX3_of : MethodName := ⟨RX3, "of", "(II)I"⟩
abbrev cX3_flow : ByteArray := prog_5_method_22_code
def yX3_flow : MethodName := ⟨RX3, "flow", "(II)I"⟩
abbrev cX3_isRate : ByteArray := prog_5_method_23_code
def yX3_isRate : MethodName := ⟨RX3, "isRate", "(I)Z"⟩
abbrev cX3_price : ByteArray := prog_5_method_24_code
def yX3_price : MethodName := ⟨RX3, "price", "(II)I"⟩
abbrev cX3_rateOf : ByteArray := prog_5_method_25_code
def yX3_rateOf : MethodName := ⟨RX3, "rateOf", "(II)I"⟩
abbrev cX3_contract : ByteArray := prog_5_method_26_code
def yX3_contract : MethodName := ⟨RX3, "contract", "(III)Z"⟩
abbrev cX3_stocks : ByteArray := prog_5_method_27_code
def yX3_stocks : MethodName := ⟨RX3, "stocks", "()I"⟩
abbrev cX3_count : ByteArray := prog_5_method_28_code
def yX3_count : MethodName := ⟨RX3, "count", "(I)I"⟩
abbrev cX3_isDearer : ByteArray := prog_5_method_29_code
def yX3_isDearer : MethodName := ⟨RX3, "isDearer", "(III)Z"⟩
abbrev cX3_cheapest1 : ByteArray := prog_5_method_30_code
def yX3_cheapest1 : MethodName := ⟨RX3, "cheapest1", "(I)I"⟩
abbrev cX3_cheapest : ByteArray := prog_5_method_31_code
def yX3_cheapest : MethodName := ⟨RX3, "cheapest", "(I)I"⟩
abbrev cX3_ranked : ByteArray := prog_5_method_32_code
def yX3_ranked : MethodName := ⟨RX3, "ranked", "(II)I"⟩
abbrev cX3_mark1 : ByteArray := prog_5_method_33_code
def yX3_mark1 : MethodName := ⟨RX3, "mark1", "(I)J"⟩
abbrev cX3_mark : ByteArray := prog_5_method_34_code
def yX3_mark : MethodName := ⟨RX3, "mark", "(I)J"⟩
abbrev cX3_invoice : ByteArray := prog_5_method_35_code
def yX3_invoice : MethodName := ⟨RX3, "invoice", "(IJ)J"⟩
abbrev cX3_gap : ByteArray := prog_5_method_36_code
def yX3_gap : MethodName := ⟨RX3, "gap", "(II)J"⟩
abbrev cX3_switches : ByteArray := prog_5_method_37_code
def yX3_switches : MethodName := ⟨RX3, "switches", "(III)I"⟩
abbrev cX3_implied : ByteArray := prog_5_method_38_code
def yX3_implied : MethodName := ⟨RX3, "implied", "(J)I"⟩
abbrev cX3_meets : ByteArray := prog_5_method_39_code
def yX3_meets : MethodName := ⟨RX3, "meets", "(III)Z"⟩
abbrev cX3_isMeeting : ByteArray := prog_5_method_40_code
def yX3_isMeeting : MethodName := ⟨RX3, "isMeeting", "(III)Z"⟩
abbrev cX3_meet : ByteArray := prog_5_method_41_code
def yX3_meet : MethodName := ⟨RX3, "meet", "(IIII)I"⟩
abbrev cX3_cost : ByteArray := prog_5_method_42_code
def yX3_cost : MethodName := ⟨RX3, "cost", "(III)J"⟩
abbrev cX3_tree : ByteArray := prog_5_method_43_code
def yX3_tree : MethodName := ⟨RX3, "tree", "(IIIII)Z"⟩
abbrev cX3_isNode : ByteArray := prog_5_method_44_code
def yX3_isNode : MethodName := ⟨RX3, "isNode", "(II)Z"⟩
abbrev cX3_rate1 : ByteArray := prog_5_method_45_code
def yX3_rate1 : MethodName := ⟨RX3, "rate1", "(II)I"⟩
abbrev cX3_rate : ByteArray := prog_5_method_46_code
def yX3_rate : MethodName := ⟨RX3, "rate", "(II)I"⟩
abbrev cX3_laysNow : ByteArray := prog_5_method_47_code
def yX3_laysNow : MethodName := ⟨RX3, "laysNow", "(II)V"⟩
abbrev cX3_laysTree : ByteArray := prog_5_method_48_code
def yX3_laysTree : MethodName := ⟨RX3, "laysTree", "(I)V"⟩
abbrev cX3_delivers : ByteArray := prog_5_method_49_code
def yX3_delivers : MethodName := ⟨RX3, "delivers", "(II)Z"⟩
abbrev cX3_value : ByteArray := prog_5_method_50_code
def yX3_value : MethodName := ⟨RX3, "value", "(II)J"⟩
abbrev cX3_act : ByteArray := prog_5_method_51_code
def yX3_act : MethodName := ⟨RX3, "act", "(II)I"⟩
abbrev cX3_path : ByteArray := prog_5_method_52_code
def yX3_path : MethodName := ⟨RX3, "path", "(IZ)I"⟩
abbrev cX3_often : ByteArray := prog_5_method_53_code
def yX3_often : MethodName := ⟨RX3, "often", "(I)I"⟩
abbrev cX3_fixed : ByteArray := prog_5_method_54_code
def yX3_fixed : MethodName := ⟨RX3, "fixed", "(I)J"⟩
abbrev cX3_only : ByteArray := prog_5_method_55_code
def yX3_only : MethodName := ⟨RX3, "only", "(I)J"⟩
abbrev cX3_without : ByteArray := prog_5_method_56_code
def yX3_without : MethodName := ⟨RX3, "without", "(I)J"⟩
abbrev cX3_isFair : ByteArray := prog_5_method_57_code
def yX3_isFair : MethodName := ⟨RX3, "isFair", "(I)Z"⟩
abbrev cX3_fair : ByteArray := prog_5_method_58_code
def yX3_fair : MethodName := ⟨RX3, "fair", "()I"⟩
def RJx145de : String := "java/io/Serializable"
def TJx145de : u_T := fun k => match k with
  | _ => ("", "", "", false)
def tyJx145de : Nat → FieldType := fun k => match k with
  | _ => .int
abbrev wsJx145de0 : List Cond := u_ws RJx145de TJx145de 0
theorem nmJx145de : ∀ a, a < 0 → ∀ b, b < 0 → a ≠ b → (TJx145de a).2.1 ≠ (TJx145de b).2.1 := by decide +kernel
theorem tyJx145de_ok : ∀ k, k < 0 → parseFieldDescriptor (TJx145de k).2.2.1 = some (tyJx145de k) := by decide +kernel
def RJ9 : String := "java/lang/Math"
def TJ9 : u_T := fun k => match k with
  | _ => ("", "", "", false)
def tyJ9 : Nat → FieldType := fun k => match k with
  | _ => .int
abbrev wsJ90 : List Cond := u_ws RJ9 TJ9 0
theorem nmJ9 : ∀ a, a < 0 → ∀ b, b < 0 → a ≠ b → (TJ9 a).2.1 ≠ (TJ9 b).2.1 := by decide +kernel
theorem tyJ9_ok : ∀ k, k < 0 → parseFieldDescriptor (TJ9 k).2.2.1 = some (tyJ9 k) := by decide +kernel
abbrev cJ9_floorDiv_f86c9 : ByteArray := prog_8_method_49_code
def yJ9_floorDiv_f86c9 : MethodName := ⟨RJ9, "floorDiv", "(JJ)J"⟩
abbrev cJ9_max_7cf53 : ByteArray := prog_8_method_65_code
def yJ9_max_7cf53 : MethodName := ⟨RJ9, "max", "(II)I"⟩
abbrev cJ9_min_7cf53 : ByteArray := prog_8_method_69_code
def yJ9_min_7cf53 : MethodName := ⟨RJ9, "min", "(II)I"⟩
def RJ0 : String := "java/lang/String"
def TJ0 : u_T := fun k => match k with
  | _ => ("", "", "", false)
def tyJ0 : Nat → FieldType := fun k => match k with
  | _ => .int
abbrev wsJ00 : List Cond := u_ws RJ0 TJ0 0
theorem nmJ0 : ∀ a, a < 0 → ∀ b, b < 0 → a ≠ b → (TJ0 a).2.1 ≠ (TJ0 b).2.1 := by decide +kernel
theorem tyJ0_ok : ∀ k, k < 0 → parseFieldDescriptor (TJ0 k).2.2.1 = some (tyJ0 k) := by decide +kernel
def RJ7 : String := "java/util/Arrays"
def TJ7 : u_T := fun k => match k with
  | _ => ("", "", "", false)
def tyJ7 : Nat → FieldType := fun k => match k with
  | _ => .int
abbrev wsJ70 : List Cond := u_ws RJ7 TJ7 0
theorem nmJ7 : ∀ a, a < 0 → ∀ b, b < 0 → a ≠ b → (TJ7 a).2.1 ≠ (TJ7 b).2.1 := by decide +kernel
theorem tyJ7_ok : ∀ k, k < 0 → parseFieldDescriptor (TJ7 k).2.2.1 = some (tyJ7 k) := by decide +kernel
abbrev cJ7_fill_53178 : ByteArray := prog_12_method_103_code
def yJ7_fill_53178 : MethodName := ⟨RJ7, "fill", "([II)V"⟩
def RL : String := "DeliveryBasketLaw"
abbrev cL_of : ByteArray := method_3_code
def yL_of : MethodName := ⟨RL, "of", "(LDeliveryBasket;II[J)I"⟩
abbrev cL_gap : ByteArray := method_4_code
def yL_gap : MethodName := ⟨RL, "gap", "(LDeliveryBasket;II[J)I"⟩
abbrev cL_cost : ByteArray := method_5_code
def yL_cost : MethodName := ⟨RL, "cost", "(LDeliveryBasket;III[J)I"⟩
abbrev cL_value : ByteArray := method_6_code
def yL_value : MethodName := ⟨RL, "value", "(LDeliveryBasket;II[J)I"⟩
abbrev cL_fixed : ByteArray := method_7_code
def yL_fixed : MethodName := ⟨RL, "fixed", "(LDeliveryBasket;I[J)I"⟩
abbrev cL_only : ByteArray := method_8_code
def yL_only : MethodName := ⟨RL, "only", "(LDeliveryBasket;I[J)I"⟩
abbrev cL_without : ByteArray := method_9_code
def yL_without : MethodName := ⟨RL, "without", "(LDeliveryBasket;I[J)I"⟩
abbrev cL_law : ByteArray := code
def yL_law : MethodName := ⟨RL, "law", "([I)Z"⟩
def wsX0_init : List Cond := .code yX0_init cX0_init 1 none :: ([.methodLink RX0 3 objectInit, .instanceMethod objectInit, .code objectInit ⟨#[0xb1]⟩ 1 none, .arrayClass .int, .fieldLink RX0 9 "DeliveryBasket$Bond" "flows" "[I"] ++ wsX00)
def wsX0_paidBack : List Cond := .code yX0_paidBack cX0_paidBack 3 (some .int) :: ([.fieldLink RX0 22 "DeliveryBasket$Bond" "periods" "I", .fieldLink RX0 15 "DeliveryBasket$Bond" "kind" "I", .fieldLink RX0 25 "DeliveryBasket$Bond" "extra" "I", .constant RX0 49 (100000000)] ++ wsX00)
def wsX0_couponIn : List Cond := .code yX0_couponIn cX0_couponIn 2 (some .int) :: ([.fieldLink RX0 15 "DeliveryBasket$Bond" "kind" "I", .fieldLink RX0 19 "DeliveryBasket$Bond" "coupon" "I", .fieldLink RX0 25 "DeliveryBasket$Bond" "extra" "I"] ++ wsX00)
def wsX0_layFlows : List Cond := .code yX0_layFlows cX0_layFlows 4 none :: ([.constant RX0 49 (100000000), .fieldLink RX0 22 "DeliveryBasket$Bond" "periods" "I", .fieldLink RX0 9 "DeliveryBasket$Bond" "flows" "[I", .constantLong RX0 58 (10000), .methodLink RX0 50 yX0_paidBack, .instanceMethod yX0_paidBack, .selects RX0 yX0_paidBack yX0_paidBack, .initialized RX0, .code yX0_paidBack cX0_paidBack 3 (some .int), .fieldLink RX0 15 "DeliveryBasket$Bond" "kind" "I", .fieldLink RX0 25 "DeliveryBasket$Bond" "extra" "I", .methodLink RX0 54 yX0_couponIn, .instanceMethod yX0_couponIn, .selects RX0 yX0_couponIn yX0_couponIn, .code yX0_couponIn cX0_couponIn 2 (some .int), .fieldLink RX0 19 "DeliveryBasket$Bond" "coupon" "I"] ++ wsX00)
def wsJ7_fill_53178 : List Cond := .code yJ7_fill_53178 cJ7_fill_53178 4 none :: ([])
def wsX0_become_r1 : List Cond := [Cond.fieldLink RX0 15 "DeliveryBasket$Bond" "kind" "I", Cond.fieldLink RX0 19 "DeliveryBasket$Bond" "coupon" "I", Cond.fieldLink RX0 22 "DeliveryBasket$Bond" "periods" "I", Cond.fieldLink RX0 25 "DeliveryBasket$Bond" "extra" "I", Cond.fieldLink RX0 28 "DeliveryBasket$Bond" "spread" "I", Cond.fieldLink RX0 31 "DeliveryBasket$Bond" "stock" "I", Cond.fieldLink RX0 34 "DeliveryBasket$Bond" "barred" "I", Cond.fieldLink RX0 40 "DeliveryBasket$Bond" "worths" "[I", Cond.methodLink RX0 37 yX0_layFlows, Cond.instanceMethod yX0_layFlows, Cond.selects RX0 yX0_layFlows yX0_layFlows, Cond.initialized RX0, Cond.code yX0_layFlows cX0_layFlows 4 none, Cond.constant RX0 49 (100000000), Cond.fieldLink RX0 9 "DeliveryBasket$Bond" "flows" "[I", Cond.constantLong RX0 58 (10000), Cond.methodLink RX0 50 yX0_paidBack, Cond.instanceMethod yX0_paidBack, Cond.selects RX0 yX0_paidBack yX0_paidBack, Cond.code yX0_paidBack cX0_paidBack 3 (some .int), Cond.methodLink RX0 54 yX0_couponIn, Cond.instanceMethod yX0_couponIn, Cond.selects RX0 yX0_couponIn yX0_couponIn, Cond.code yX0_couponIn cX0_couponIn 2 (some .int)]
def wsX0_become_r2 : List Cond := [Cond.methodLink RX0 43 yJ7_fill_53178, Cond.static yJ7_fill_53178, Cond.initialized RJ7, Cond.code yJ7_fill_53178 cJ7_fill_53178 4 none]
def wsX0_become : List Cond := .code yX0_become cX0_become 6 none :: ((wsX0_become_r1 ++ wsX0_become_r2) ++ wsX00)
def wsX2_within : List Cond := .code yX2_within cX2_within 3 (some .boolean) :: ([])
def wsX0_changeSpread : List Cond := .code yX0_changeSpread cX0_changeSpread 2 (some .boolean) :: ([.fieldLink RX0 28 "DeliveryBasket$Bond" "spread" "I", .static yX2_within, .initialized RX2, .code yX2_within cX2_within 3 (some .boolean)] ++ wsX00)
def wsX0_changeStock : List Cond := .code yX0_changeStock cX0_changeStock 2 (some .boolean) :: ([.fieldLink RX0 31 "DeliveryBasket$Bond" "stock" "I", .static yX2_within, .initialized RX2, .code yX2_within cX2_within 3 (some .boolean)] ++ wsX00)
def wsX0_changeBarred : List Cond := .code yX0_changeBarred cX0_changeBarred 2 (some .boolean) :: ([.fieldLink RX0 34 "DeliveryBasket$Bond" "barred" "I", .static yX2_within, .initialized RX2, .code yX2_within cX2_within 3 (some .boolean)] ++ wsX00)
def wsX0_discounted : List Cond := .code yX0_discounted cX0_discounted 6 (some .int) :: ([.fieldLink RX0 22 "DeliveryBasket$Bond" "periods" "I", .fieldLink RX0 9 "DeliveryBasket$Bond" "flows" "[I", .constantLong RX0 58 (10000)] ++ wsX00)
def wsX0_worthAt : List Cond := .code yX0_worthAt cX0_worthAt 2 (some .int) :: ([.fieldLink RX0 40 "DeliveryBasket$Bond" "worths" "[I", .static yX2_within, .initialized RX2, .code yX2_within cX2_within 3 (some .boolean), .methodLink RX0 75 yX0_discounted, .instanceMethod yX0_discounted, .selects RX0 yX0_discounted yX0_discounted, .initialized RX0, .code yX0_discounted cX0_discounted 6 (some .int), .fieldLink RX0 22 "DeliveryBasket$Bond" "periods" "I", .fieldLink RX0 9 "DeliveryBasket$Bond" "flows" "[I", .constantLong RX0 58 (10000)] ++ wsX00)
def wsX0_factorBy : List Cond := .code yX0_factorBy cX0_factorBy 2 none :: ([.fieldLink RX0 67 "DeliveryBasket$Bond" "factor" "I", .methodLink RX0 64 yX0_worthAt, .instanceMethod yX0_worthAt, .selects RX0 yX0_worthAt yX0_worthAt, .initialized RX0, .code yX0_worthAt cX0_worthAt 2 (some .int), .fieldLink RX0 40 "DeliveryBasket$Bond" "worths" "[I", .static yX2_within, .initialized RX2, .code yX2_within cX2_within 3 (some .boolean), .methodLink RX0 75 yX0_discounted, .instanceMethod yX0_discounted, .selects RX0 yX0_discounted yX0_discounted, .code yX0_discounted cX0_discounted 6 (some .int), .fieldLink RX0 22 "DeliveryBasket$Bond" "periods" "I", .fieldLink RX0 9 "DeliveryBasket$Bond" "flows" "[I", .constantLong RX0 58 (10000)] ++ wsX00)
def wsX0_priceAt : List Cond := .code yX0_priceAt cX0_priceAt 2 (some .int) :: ([.fieldLink RX0 28 "DeliveryBasket$Bond" "spread" "I", .methodLink RX0 70 Lib.Math.max.name, .static Lib.Math.max.name, .initialized "java/lang/Math", .code Lib.Math.max.name Lib.Math.max.code 2 (some .int), .methodLink RX0 64 yX0_worthAt, .instanceMethod yX0_worthAt, .selects RX0 yX0_worthAt yX0_worthAt, .initialized RX0, .code yX0_worthAt cX0_worthAt 2 (some .int), .fieldLink RX0 40 "DeliveryBasket$Bond" "worths" "[I", .static yX2_within, .initialized RX2, .code yX2_within cX2_within 3 (some .boolean), .methodLink RX0 75 yX0_discounted, .instanceMethod yX0_discounted, .selects RX0 yX0_discounted yX0_discounted, .code yX0_discounted cX0_discounted 6 (some .int), .fieldLink RX0 22 "DeliveryBasket$Bond" "periods" "I", .fieldLink RX0 9 "DeliveryBasket$Bond" "flows" "[I", .constantLong RX0 58 (10000)] ++ wsX00)
def wsX0_invoiceBy : List Cond := .code yX0_invoiceBy cX0_invoiceBy 3 (some .long) :: ([.fieldLink RX0 67 "DeliveryBasket$Bond" "factor" "I", .constantLong RX0 58 (10000)] ++ wsX00)
def wsX0_keepWorths : List Cond := .code yX0_keepWorths cX0_keepWorths 1 none :: ([.fieldLink RX0 40 "DeliveryBasket$Bond" "worths" "[I", .arrayClass .int] ++ wsX00)
def wsX1_init : List Cond := .code yX1_init cX1_init 1 none :: ([.methodLink RX1 3 objectInit, .instanceMethod objectInit, .code objectInit ⟨#[0xb1]⟩ 1 none, .fieldLink RX1 9 "DeliveryBasket$Lattice" "start" "I", .fieldLink RX1 15 "DeliveryBasket$Lattice" "jump" "I", .constant RX1 18 (100000000), .fieldLink RX1 19 "DeliveryBasket$Lattice" "agreed" "I", .classLink RX1 22 "[[J", .arrayClass .long, .fieldLink RX1 24 "DeliveryBasket$Lattice" "values" "[[J", .classLink RX1 27 "[[I", .arrayClass .int, .fieldLink RX1 29 "DeliveryBasket$Lattice" "acts" "[[I", .fieldLink RX1 32 "DeliveryBasket$Lattice" "levelPrices" "[[I", .fieldLink RX1 35 "DeliveryBasket$Lattice" "levelNow" "[J", .fieldLink RX1 39 "DeliveryBasket$Lattice" "levelPick" "[I", .fieldLink RX1 43 "DeliveryBasket$Lattice" "invoices" "[J", .fieldLink RX1 46 "DeliveryBasket$Lattice" "ways" "[I"] ++ wsX10)
def wsX1_change : List Cond := .code yX1_change cX1_change 6 (some .boolean) :: ([.fieldLink RX1 49 "DeliveryBasket$Lattice" "days" "I", .fieldLink RX1 9 "DeliveryBasket$Lattice" "start" "I", .fieldLink RX1 15 "DeliveryBasket$Lattice" "jump" "I", .fieldLink RX1 52 "DeliveryBasket$Lattice" "carry" "I", .fieldLink RX1 19 "DeliveryBasket$Lattice" "agreed" "I"] ++ wsX10)
def wsX1_hasDay : List Cond := .code yX1_hasDay cX1_hasDay 2 (some .boolean) :: ([.fieldLink RX1 49 "DeliveryBasket$Lattice" "days" "I", .static yX2_within, .initialized RX2, .code yX2_within cX2_within 3 (some .boolean)] ++ wsX10)
def wsX1_hasNode : List Cond := .code yX1_hasNode cX1_hasNode 3 (some .boolean) :: ([.methodLink RX1 59 yX1_hasDay, .instanceMethod yX1_hasDay, .selects RX1 yX1_hasDay yX1_hasDay, .initialized RX1, .code yX1_hasDay cX1_hasDay 2 (some .boolean), .fieldLink RX1 49 "DeliveryBasket$Lattice" "days" "I", .static yX2_within, .initialized RX2, .code yX2_within cX2_within 3 (some .boolean)] ++ wsX10)
def wsX1_level : List Cond := .code yX1_level cX1_level 3 (some .int) :: ([.fieldLink RX1 49 "DeliveryBasket$Lattice" "days" "I"] ++ wsX10)
def wsX1_rateAt : List Cond := .code yX1_rateAt cX1_rateAt 2 (some .int) :: ([.fieldLink RX1 9 "DeliveryBasket$Lattice" "start" "I", .fieldLink RX1 15 "DeliveryBasket$Lattice" "jump" "I", .fieldLink RX1 49 "DeliveryBasket$Lattice" "days" "I", .methodLink RX1 63 Lib.Math.min.name, .static Lib.Math.min.name, .initialized "java/lang/Math", .code Lib.Math.min.name Lib.Math.min.code 2 (some .int), .methodLink RX1 69 Lib.Math.max.name, .static Lib.Math.max.name, .code Lib.Math.max.name Lib.Math.max.code 2 (some .int)] ++ wsX10)
def wsX1_layPrices_r1 : List Cond := [Cond.fieldLink RX1 49 "DeliveryBasket$Lattice" "days" "I", Cond.fieldLink RX1 32 "DeliveryBasket$Lattice" "levelPrices" "[[I", Cond.methodLink RX1 72 yX1_rateAt, Cond.instanceMethod yX1_rateAt, Cond.selects RX1 yX1_rateAt yX1_rateAt, Cond.initialized RX1, Cond.code yX1_rateAt cX1_rateAt 2 (some .int), Cond.fieldLink RX1 9 "DeliveryBasket$Lattice" "start" "I", Cond.fieldLink RX1 15 "DeliveryBasket$Lattice" "jump" "I", Cond.methodLink RX1 63 Lib.Math.min.name, Cond.static Lib.Math.min.name, Cond.initialized "java/lang/Math", Cond.code Lib.Math.min.name Lib.Math.min.code 2 (some .int), Cond.methodLink RX1 69 Lib.Math.max.name, Cond.static Lib.Math.max.name, Cond.code Lib.Math.max.name Lib.Math.max.code 2 (some .int), Cond.methodLink RX1 76 yX0_priceAt, Cond.instanceMethod yX0_priceAt, Cond.selects RX0 yX0_priceAt yX0_priceAt, Cond.initialized RX0, Cond.code yX0_priceAt cX0_priceAt 2 (some .int), Cond.fieldLink RX0 28 "DeliveryBasket$Bond" "spread" "I", Cond.methodLink RX0 70 Lib.Math.max.name, Cond.methodLink RX0 64 yX0_worthAt]
def wsX1_layPrices_r2 : List Cond := [Cond.instanceMethod yX0_worthAt, Cond.selects RX0 yX0_worthAt yX0_worthAt, Cond.code yX0_worthAt cX0_worthAt 2 (some .int), Cond.fieldLink RX0 40 "DeliveryBasket$Bond" "worths" "[I", Cond.static yX2_within, Cond.initialized RX2, Cond.code yX2_within cX2_within 3 (some .boolean), Cond.methodLink RX0 75 yX0_discounted, Cond.instanceMethod yX0_discounted, Cond.selects RX0 yX0_discounted yX0_discounted, Cond.code yX0_discounted cX0_discounted 6 (some .int), Cond.fieldLink RX0 22 "DeliveryBasket$Bond" "periods" "I", Cond.fieldLink RX0 9 "DeliveryBasket$Bond" "flows" "[I", Cond.constantLong RX0 58 (10000)]
def wsX1_layPrices : List Cond := .code yX1_layPrices cX1_layPrices 6 none :: ((wsX1_layPrices_r1 ++ wsX1_layPrices_r2) ++ wsX10 ++ wsX00)
def wsX2_isIn : List Cond := .code yX2_isIn cX2_isIn 2 (some .boolean) :: ([])
def wsX1_bestOn : List Cond := .code yX1_bestOn cX1_bestOn 9 (some .int) :: ([.fieldLink RX1 43 "DeliveryBasket$Lattice" "invoices" "[J", .fieldLink RX1 32 "DeliveryBasket$Lattice" "levelPrices" "[[I", .static yX2_isIn, .initialized RX2, .code yX2_isIn cX2_isIn 2 (some .boolean)] ++ wsX10)
def wsX1_layNow : List Cond := .code yX1_layNow cX1_layNow 6 none :: ([.fieldLink RX1 43 "DeliveryBasket$Lattice" "invoices" "[J", .fieldLink RX1 49 "DeliveryBasket$Lattice" "days" "I", .fieldLink RX1 39 "DeliveryBasket$Lattice" "levelPick" "[I", .fieldLink RX1 35 "DeliveryBasket$Lattice" "levelNow" "[J", .fieldLink RX1 32 "DeliveryBasket$Lattice" "levelPrices" "[[I", .static yX2_isIn, .initialized RX2, .code yX2_isIn cX2_isIn 2 (some .boolean), .methodLink RX1 85 yX0_invoiceBy, .instanceMethod yX0_invoiceBy, .selects RX0 yX0_invoiceBy yX0_invoiceBy, .initialized RX0, .code yX0_invoiceBy cX0_invoiceBy 3 (some .long), .fieldLink RX0 67 "DeliveryBasket$Bond" "factor" "I", .constantLong RX0 58 (10000), .methodLink RX1 89 yX1_bestOn, .instanceMethod yX1_bestOn, .selects RX1 yX1_bestOn yX1_bestOn, .initialized RX1, .code yX1_bestOn cX1_bestOn 9 (some .int)] ++ wsX10 ++ wsX00)
def wsX1_deliverAt : List Cond := .code yX1_deliverAt cX1_deliverAt 4 none :: ([.fieldLink RX1 24 "DeliveryBasket$Lattice" "values" "[[J", .fieldLink RX1 35 "DeliveryBasket$Lattice" "levelNow" "[J", .fieldLink RX1 29 "DeliveryBasket$Lattice" "acts" "[[I", .fieldLink RX1 39 "DeliveryBasket$Lattice" "levelPick" "[I", .methodLink RX1 102 yX1_level, .instanceMethod yX1_level, .selects RX1 yX1_level yX1_level, .initialized RX1, .code yX1_level cX1_level 3 (some .int), .fieldLink RX1 49 "DeliveryBasket$Lattice" "days" "I"] ++ wsX10)
def wsJ9_floorDiv_f86c9 : List Cond := .code yJ9_floorDiv_f86c9 cJ9_floorDiv_f86c9 6 (some .long) :: ([])
def wsX1_rollBack : List Cond := .code yX1_rollBack cX1_rollBack 7 (some .long) :: ([.fieldLink RX1 24 "DeliveryBasket$Lattice" "values" "[[J", .constantLong RX1 96 (2), .fieldLink RX1 52 "DeliveryBasket$Lattice" "carry" "I", .fieldLink RX1 35 "DeliveryBasket$Lattice" "levelNow" "[J", .fieldLink RX1 29 "DeliveryBasket$Lattice" "acts" "[[I", .methodLink RX1 92 yX1_deliverAt, .instanceMethod yX1_deliverAt, .selects RX1 yX1_deliverAt yX1_deliverAt, .initialized RX1, .code yX1_deliverAt cX1_deliverAt 4 none, .fieldLink RX1 39 "DeliveryBasket$Lattice" "levelPick" "[I", .methodLink RX1 102 yX1_level, .instanceMethod yX1_level, .selects RX1 yX1_level yX1_level, .code yX1_level cX1_level 3 (some .int), .fieldLink RX1 49 "DeliveryBasket$Lattice" "days" "I", .methodLink RX1 98 yJ9_floorDiv_f86c9, .static yJ9_floorDiv_f86c9, .initialized RJ9, .code yJ9_floorDiv_f86c9 cJ9_floorDiv_f86c9 6 (some .long)] ++ wsX10)
def wsX1_pathsThatEndOn : List Cond := .code yX1_pathsThatEndOn cX1_pathsThatEndOn 4 (some .int) :: ([.fieldLink RX1 46 "DeliveryBasket$Lattice" "ways" "[I", .fieldLink RX1 29 "DeliveryBasket$Lattice" "acts" "[[I", .fieldLink RX1 49 "DeliveryBasket$Lattice" "days" "I", .methodLink RX1 105 yJ7_fill_53178, .static yJ7_fill_53178, .initialized RJ7, .code yJ7_fill_53178 cJ7_fill_53178 4 none] ++ wsX10)
def wsX2_init_r1 : List Cond := [Cond.methodLink RX2 3 objectInit, Cond.instanceMethod objectInit, Cond.code objectInit ⟨#[0xb1]⟩ 1 none, Cond.classLink RX2 9 RX0, Cond.fieldLink RX2 11 "DeliveryBasket" "bonds" "[LDeliveryBasket$Bond;", Cond.fieldLink RX2 15 "DeliveryBasket" "notional" "I", Cond.fieldLink RX2 19 "DeliveryBasket" "least" "I", Cond.fieldLink RX2 22 "DeliveryBasket" "most" "I", Cond.classLink RX2 25 RX1, Cond.instantiable RX1 12, Cond.initialized RX1, Cond.fieldLink RX2 28 "DeliveryBasket" "lattice" "LDeliveryBasket$Lattice;", Cond.arrayClass .int, Cond.fieldLink RX2 32 "DeliveryBasket" "prices" "[I", Cond.arrayClass .long, Cond.fieldLink RX2 36 "DeliveryBasket" "costs" "[J", Cond.fieldLink RX2 40 "DeliveryBasket" "taken" "[I", Cond.instantiable RX0 10, Cond.initialized RX0, Cond.instanceMethod yX1_init, Cond.code yX1_init cX1_init 1 none, Cond.methodLink RX1 3 objectInit, Cond.fieldLink RX1 9 "DeliveryBasket$Lattice" "start" "I", Cond.fieldLink RX1 15 "DeliveryBasket$Lattice" "jump" "I"]
def wsX2_init_r2 : List Cond := [Cond.constant RX1 18 (100000000), Cond.fieldLink RX1 19 "DeliveryBasket$Lattice" "agreed" "I", Cond.classLink RX1 22 "[[J", Cond.fieldLink RX1 24 "DeliveryBasket$Lattice" "values" "[[J", Cond.classLink RX1 27 "[[I", Cond.fieldLink RX1 29 "DeliveryBasket$Lattice" "acts" "[[I", Cond.fieldLink RX1 32 "DeliveryBasket$Lattice" "levelPrices" "[[I", Cond.fieldLink RX1 35 "DeliveryBasket$Lattice" "levelNow" "[J", Cond.fieldLink RX1 39 "DeliveryBasket$Lattice" "levelPick" "[I", Cond.fieldLink RX1 43 "DeliveryBasket$Lattice" "invoices" "[J", Cond.fieldLink RX1 46 "DeliveryBasket$Lattice" "ways" "[I", Cond.instanceMethod yX0_init, Cond.code yX0_init cX0_init 1 none, Cond.methodLink RX0 3 objectInit, Cond.fieldLink RX0 9 "DeliveryBasket$Bond" "flows" "[I"]
def wsX2_init : List Cond := .code yX2_init cX2_init 2 none :: ((wsX2_init_r1 ++ wsX2_init_r2) ++ wsX20 ++ wsX10 ++ wsX00)
def wsX2_canBe : List Cond := .code yX2_canBe cX2_canBe 4 (some .boolean) :: ([.methodLink RX2 47 yX2_within, .static yX2_within, .initialized RX2, .code yX2_within cX2_within 3 (some .boolean)])
def wsX2_bond_r1 : List Cond := [Cond.fieldLink RX2 44 "DeliveryBasket" "size" "I", Cond.fieldLink RX2 11 "DeliveryBasket" "bonds" "[LDeliveryBasket$Bond;", Cond.fieldLink RX2 15 "DeliveryBasket" "notional" "I", Cond.methodLink RX2 47 yX2_within, Cond.static yX2_within, Cond.initialized RX2, Cond.code yX2_within cX2_within 3 (some .boolean), Cond.methodLink RX2 51 yX2_canBe, Cond.static yX2_canBe, Cond.code yX2_canBe cX2_canBe 4 (some .boolean), Cond.methodLink RX2 55 yX0_become, Cond.instanceMethod yX0_become, Cond.selects RX0 yX0_become yX0_become, Cond.initialized RX0, Cond.code yX0_become cX0_become 6 none, Cond.fieldLink RX0 15 "DeliveryBasket$Bond" "kind" "I", Cond.fieldLink RX0 19 "DeliveryBasket$Bond" "coupon" "I", Cond.fieldLink RX0 22 "DeliveryBasket$Bond" "periods" "I", Cond.fieldLink RX0 25 "DeliveryBasket$Bond" "extra" "I", Cond.fieldLink RX0 28 "DeliveryBasket$Bond" "spread" "I", Cond.fieldLink RX0 31 "DeliveryBasket$Bond" "stock" "I", Cond.fieldLink RX0 34 "DeliveryBasket$Bond" "barred" "I", Cond.fieldLink RX0 40 "DeliveryBasket$Bond" "worths" "[I", Cond.methodLink RX0 37 yX0_layFlows]
def wsX2_bond_r2 : List Cond := [Cond.instanceMethod yX0_layFlows, Cond.selects RX0 yX0_layFlows yX0_layFlows, Cond.code yX0_layFlows cX0_layFlows 4 none, Cond.constant RX0 49 (100000000), Cond.fieldLink RX0 9 "DeliveryBasket$Bond" "flows" "[I", Cond.constantLong RX0 58 (10000), Cond.methodLink RX0 50 yX0_paidBack, Cond.instanceMethod yX0_paidBack, Cond.selects RX0 yX0_paidBack yX0_paidBack, Cond.code yX0_paidBack cX0_paidBack 3 (some .int), Cond.methodLink RX0 54 yX0_couponIn, Cond.instanceMethod yX0_couponIn, Cond.selects RX0 yX0_couponIn yX0_couponIn, Cond.code yX0_couponIn cX0_couponIn 2 (some .int), Cond.methodLink RX0 43 yJ7_fill_53178, Cond.static yJ7_fill_53178, Cond.initialized RJ7, Cond.code yJ7_fill_53178 cJ7_fill_53178 4 none, Cond.methodLink RX2 59 yX0_factorBy, Cond.instanceMethod yX0_factorBy, Cond.selects RX0 yX0_factorBy yX0_factorBy, Cond.code yX0_factorBy cX0_factorBy 2 none, Cond.fieldLink RX0 67 "DeliveryBasket$Bond" "factor" "I", Cond.methodLink RX0 64 yX0_worthAt]
def wsX2_bond_r3 : List Cond := [Cond.instanceMethod yX0_worthAt, Cond.selects RX0 yX0_worthAt yX0_worthAt, Cond.code yX0_worthAt cX0_worthAt 2 (some .int), Cond.methodLink RX0 75 yX0_discounted, Cond.instanceMethod yX0_discounted, Cond.selects RX0 yX0_discounted yX0_discounted, Cond.code yX0_discounted cX0_discounted 6 (some .int)]
def wsX2_bond : List Cond := .code yX2_bond cX2_bond 7 (some .int) :: ((wsX2_bond_r1 ++ (wsX2_bond_r2 ++ wsX2_bond_r3)) ++ wsX20 ++ wsX00)
def wsX2_has : List Cond := .code yX2_has cX2_has 2 (some .boolean) :: ([.fieldLink RX2 44 "DeliveryBasket" "size" "I", .methodLink RX2 47 yX2_within, .static yX2_within, .initialized RX2, .code yX2_within cX2_within 3 (some .boolean)] ++ wsX20)
def wsX2_drop : List Cond := .code yX2_drop cX2_drop 4 (some .int) :: ([.fieldLink RX2 11 "DeliveryBasket" "bonds" "[LDeliveryBasket$Bond;", .fieldLink RX2 44 "DeliveryBasket" "size" "I", .methodLink RX2 63 yX2_has, .instanceMethod yX2_has, .selects RX2 yX2_has yX2_has, .initialized RX2, .code yX2_has cX2_has 2 (some .boolean), .methodLink RX2 47 yX2_within, .static yX2_within, .code yX2_within cX2_within 3 (some .boolean)] ++ wsX20)
def wsX2_alter_r1 : List Cond := [Cond.fieldLink RX2 11 "DeliveryBasket" "bonds" "[LDeliveryBasket$Bond;", Cond.methodLink RX2 63 yX2_has, Cond.instanceMethod yX2_has, Cond.selects RX2 yX2_has yX2_has, Cond.initialized RX2, Cond.code yX2_has cX2_has 2 (some .boolean), Cond.fieldLink RX2 44 "DeliveryBasket" "size" "I", Cond.methodLink RX2 47 yX2_within, Cond.static yX2_within, Cond.code yX2_within cX2_within 3 (some .boolean), Cond.methodLink RX2 67 yX0_changeSpread, Cond.instanceMethod yX0_changeSpread, Cond.selects RX0 yX0_changeSpread yX0_changeSpread, Cond.initialized RX0, Cond.code yX0_changeSpread cX0_changeSpread 2 (some .boolean), Cond.fieldLink RX0 28 "DeliveryBasket$Bond" "spread" "I", Cond.methodLink RX2 70 yX0_changeStock, Cond.instanceMethod yX0_changeStock, Cond.selects RX0 yX0_changeStock yX0_changeStock, Cond.code yX0_changeStock cX0_changeStock 2 (some .boolean), Cond.fieldLink RX0 31 "DeliveryBasket$Bond" "stock" "I", Cond.methodLink RX2 73 yX0_changeBarred, Cond.instanceMethod yX0_changeBarred, Cond.selects RX0 yX0_changeBarred yX0_changeBarred]
def wsX2_alter_r2 : List Cond := [Cond.code yX0_changeBarred cX0_changeBarred 2 (some .boolean), Cond.fieldLink RX0 34 "DeliveryBasket$Bond" "barred" "I"]
def wsX2_alter : List Cond := .code yX2_alter cX2_alter 5 (some .boolean) :: ((wsX2_alter_r1 ++ wsX2_alter_r2) ++ wsX20 ++ wsX00)
def wsX2_isEligible : List Cond := .code yX2_isEligible cX2_isEligible 3 (some .boolean) :: ([.fieldLink RX2 11 "DeliveryBasket" "bonds" "[LDeliveryBasket$Bond;", .fieldLink RX2 101 "DeliveryBasket$Bond" "barred" "I", .fieldLink RX2 89 "DeliveryBasket$Bond" "periods" "I", .fieldLink RX2 19 "DeliveryBasket" "least" "I", .fieldLink RX2 22 "DeliveryBasket" "most" "I", .fieldLink RX2 104 "DeliveryBasket$Bond" "factor" "I", .methodLink RX2 47 yX2_within, .static yX2_within, .initialized RX2, .code yX2_within cX2_within 3 (some .boolean)] ++ wsX20 ++ wsX00)
def wsX2_of_r1 : List Cond := [Cond.classLink RX2 76 "java/util/NoSuchElementException", Cond.initialized "java/util/NoSuchElementException", Cond.fieldLink RX2 11 "DeliveryBasket" "bonds" "[LDeliveryBasket$Bond;", Cond.fieldLink RX2 83 "DeliveryBasket$Bond" "kind" "I", Cond.fieldLink RX2 86 "DeliveryBasket$Bond" "coupon" "I", Cond.fieldLink RX2 89 "DeliveryBasket$Bond" "periods" "I", Cond.fieldLink RX2 92 "DeliveryBasket$Bond" "extra" "I", Cond.fieldLink RX2 95 "DeliveryBasket$Bond" "spread" "I", Cond.fieldLink RX2 98 "DeliveryBasket$Bond" "stock" "I", Cond.fieldLink RX2 101 "DeliveryBasket$Bond" "barred" "I", Cond.fieldLink RX2 104 "DeliveryBasket$Bond" "factor" "I", Cond.methodLink RX2 63 yX2_has, Cond.instanceMethod yX2_has, Cond.selects RX2 yX2_has yX2_has, Cond.initialized RX2, Cond.code yX2_has cX2_has 2 (some .boolean), Cond.fieldLink RX2 44 "DeliveryBasket" "size" "I", Cond.methodLink RX2 47 yX2_within, Cond.static yX2_within, Cond.code yX2_within cX2_within 3 (some .boolean), Cond.methodLink RX2 107 yX2_isEligible, Cond.instanceMethod yX2_isEligible, Cond.selects RX2 yX2_isEligible yX2_isEligible, Cond.code yX2_isEligible cX2_isEligible 3 (some .boolean)]
def wsX2_of_r2 : List Cond := [Cond.fieldLink RX2 19 "DeliveryBasket" "least" "I", Cond.fieldLink RX2 22 "DeliveryBasket" "most" "I"]
def wsX2_of : List Cond := .code yX2_of cX2_of 4 (some .int) :: ((wsX2_of_r1 ++ wsX2_of_r2) ++ wsX20 ++ wsX00 ++ (vx_atS RX2 80 "java/util/NoSuchElementException" ["java/lang/RuntimeException", "java/lang/Exception"]).filter goodWord)
def wsX2_flow : List Cond := .code yX2_flow cX2_flow 3 (some .int) :: ([.fieldLink RX2 11 "DeliveryBasket" "bonds" "[LDeliveryBasket$Bond;", .fieldLink RX2 89 "DeliveryBasket$Bond" "periods" "I", .fieldLink RX2 112 "DeliveryBasket$Bond" "flows" "[I", .methodLink RX2 63 yX2_has, .instanceMethod yX2_has, .selects RX2 yX2_has yX2_has, .initialized RX2, .code yX2_has cX2_has 2 (some .boolean), .fieldLink RX2 44 "DeliveryBasket" "size" "I", .methodLink RX2 47 yX2_within, .static yX2_within, .code yX2_within cX2_within 3 (some .boolean)] ++ wsX20 ++ wsX00)
def wsX2_isRate : List Cond := .code yX2_isRate cX2_isRate 1 (some .boolean) :: ([.methodLink RX2 47 yX2_within, .static yX2_within, .initialized RX2, .code yX2_within cX2_within 3 (some .boolean)])
def wsX2_price_r1 : List Cond := [Cond.fieldLink RX2 11 "DeliveryBasket" "bonds" "[LDeliveryBasket$Bond;", Cond.methodLink RX2 63 yX2_has, Cond.instanceMethod yX2_has, Cond.selects RX2 yX2_has yX2_has, Cond.initialized RX2, Cond.code yX2_has cX2_has 2 (some .boolean), Cond.fieldLink RX2 44 "DeliveryBasket" "size" "I", Cond.methodLink RX2 47 yX2_within, Cond.static yX2_within, Cond.code yX2_within cX2_within 3 (some .boolean), Cond.methodLink RX2 115 yX2_isRate, Cond.static yX2_isRate, Cond.code yX2_isRate cX2_isRate 1 (some .boolean), Cond.methodLink RX2 118 yX0_priceAt, Cond.instanceMethod yX0_priceAt, Cond.selects RX0 yX0_priceAt yX0_priceAt, Cond.initialized RX0, Cond.code yX0_priceAt cX0_priceAt 2 (some .int), Cond.fieldLink RX0 28 "DeliveryBasket$Bond" "spread" "I", Cond.methodLink RX0 70 Lib.Math.max.name, Cond.static Lib.Math.max.name, Cond.initialized "java/lang/Math", Cond.code Lib.Math.max.name Lib.Math.max.code 2 (some .int), Cond.methodLink RX0 64 yX0_worthAt]
def wsX2_price_r2 : List Cond := [Cond.instanceMethod yX0_worthAt, Cond.selects RX0 yX0_worthAt yX0_worthAt, Cond.code yX0_worthAt cX0_worthAt 2 (some .int), Cond.fieldLink RX0 40 "DeliveryBasket$Bond" "worths" "[I", Cond.methodLink RX0 75 yX0_discounted, Cond.instanceMethod yX0_discounted, Cond.selects RX0 yX0_discounted yX0_discounted, Cond.code yX0_discounted cX0_discounted 6 (some .int), Cond.fieldLink RX0 22 "DeliveryBasket$Bond" "periods" "I", Cond.fieldLink RX0 9 "DeliveryBasket$Bond" "flows" "[I", Cond.constantLong RX0 58 (10000)]
def wsX2_price : List Cond := .code yX2_price cX2_price 3 (some .int) :: ((wsX2_price_r1 ++ wsX2_price_r2) ++ wsX20 ++ wsX00)
def wsX2_rateOf_r1 : List Cond := [Cond.fieldLink RX2 11 "DeliveryBasket" "bonds" "[LDeliveryBasket$Bond;", Cond.methodLink RX2 63 yX2_has, Cond.instanceMethod yX2_has, Cond.selects RX2 yX2_has yX2_has, Cond.initialized RX2, Cond.code yX2_has cX2_has 2 (some .boolean), Cond.fieldLink RX2 44 "DeliveryBasket" "size" "I", Cond.methodLink RX2 47 yX2_within, Cond.static yX2_within, Cond.code yX2_within cX2_within 3 (some .boolean), Cond.methodLink RX2 118 yX0_priceAt, Cond.instanceMethod yX0_priceAt, Cond.selects RX0 yX0_priceAt yX0_priceAt, Cond.initialized RX0, Cond.code yX0_priceAt cX0_priceAt 2 (some .int), Cond.fieldLink RX0 28 "DeliveryBasket$Bond" "spread" "I", Cond.methodLink RX0 70 Lib.Math.max.name, Cond.static Lib.Math.max.name, Cond.initialized "java/lang/Math", Cond.code Lib.Math.max.name Lib.Math.max.code 2 (some .int), Cond.methodLink RX0 64 yX0_worthAt, Cond.instanceMethod yX0_worthAt, Cond.selects RX0 yX0_worthAt yX0_worthAt, Cond.code yX0_worthAt cX0_worthAt 2 (some .int)]
def wsX2_rateOf_r2 : List Cond := [Cond.fieldLink RX0 40 "DeliveryBasket$Bond" "worths" "[I", Cond.methodLink RX0 75 yX0_discounted, Cond.instanceMethod yX0_discounted, Cond.selects RX0 yX0_discounted yX0_discounted, Cond.code yX0_discounted cX0_discounted 6 (some .int), Cond.fieldLink RX0 22 "DeliveryBasket$Bond" "periods" "I", Cond.fieldLink RX0 9 "DeliveryBasket$Bond" "flows" "[I", Cond.constantLong RX0 58 (10000)]
def wsX2_rateOf : List Cond := .code yX2_rateOf cX2_rateOf 5 (some .int) :: ((wsX2_rateOf_r1 ++ wsX2_rateOf_r2) ++ wsX20 ++ wsX00)
def wsX2_contract_r1 : List Cond := [Cond.fieldLink RX2 15 "DeliveryBasket" "notional" "I", Cond.fieldLink RX2 19 "DeliveryBasket" "least" "I", Cond.fieldLink RX2 22 "DeliveryBasket" "most" "I", Cond.fieldLink RX2 44 "DeliveryBasket" "size" "I", Cond.fieldLink RX2 11 "DeliveryBasket" "bonds" "[LDeliveryBasket$Bond;", Cond.methodLink RX2 115 yX2_isRate, Cond.static yX2_isRate, Cond.initialized RX2, Cond.code yX2_isRate cX2_isRate 1 (some .boolean), Cond.methodLink RX2 47 yX2_within, Cond.static yX2_within, Cond.code yX2_within cX2_within 3 (some .boolean), Cond.methodLink RX2 59 yX0_factorBy, Cond.instanceMethod yX0_factorBy, Cond.selects RX0 yX0_factorBy yX0_factorBy, Cond.initialized RX0, Cond.code yX0_factorBy cX0_factorBy 2 none, Cond.fieldLink RX0 67 "DeliveryBasket$Bond" "factor" "I", Cond.methodLink RX0 64 yX0_worthAt, Cond.instanceMethod yX0_worthAt, Cond.selects RX0 yX0_worthAt yX0_worthAt, Cond.code yX0_worthAt cX0_worthAt 2 (some .int), Cond.fieldLink RX0 40 "DeliveryBasket$Bond" "worths" "[I", Cond.methodLink RX0 75 yX0_discounted]
def wsX2_contract_r2 : List Cond := [Cond.instanceMethod yX0_discounted, Cond.selects RX0 yX0_discounted yX0_discounted, Cond.code yX0_discounted cX0_discounted 6 (some .int), Cond.fieldLink RX0 22 "DeliveryBasket$Bond" "periods" "I", Cond.fieldLink RX0 9 "DeliveryBasket$Bond" "flows" "[I", Cond.constantLong RX0 58 (10000)]
def wsX2_contract : List Cond := .code yX2_contract cX2_contract 5 (some .boolean) :: ((wsX2_contract_r1 ++ wsX2_contract_r2) ++ wsX20 ++ wsX00)
def wsX2_eligibleBits : List Cond := .code yX2_eligibleBits cX2_eligibleBits 3 (some .int) :: ([.fieldLink RX2 44 "DeliveryBasket" "size" "I", .methodLink RX2 107 yX2_isEligible, .instanceMethod yX2_isEligible, .selects RX2 yX2_isEligible yX2_isEligible, .initialized RX2, .code yX2_isEligible cX2_isEligible 3 (some .boolean), .fieldLink RX2 11 "DeliveryBasket" "bonds" "[LDeliveryBasket$Bond;", .fieldLink RX2 101 "DeliveryBasket$Bond" "barred" "I", .fieldLink RX2 89 "DeliveryBasket$Bond" "periods" "I", .fieldLink RX2 19 "DeliveryBasket" "least" "I", .fieldLink RX2 22 "DeliveryBasket" "most" "I", .fieldLink RX2 104 "DeliveryBasket$Bond" "factor" "I", .methodLink RX2 47 yX2_within, .static yX2_within, .code yX2_within cX2_within 3 (some .boolean)] ++ wsX20 ++ wsX00)
def wsX2_eligibleStock : List Cond := .code yX2_eligibleStock cX2_eligibleStock 3 (some .int) :: ([.fieldLink RX2 44 "DeliveryBasket" "size" "I", .fieldLink RX2 11 "DeliveryBasket" "bonds" "[LDeliveryBasket$Bond;", .fieldLink RX2 98 "DeliveryBasket$Bond" "stock" "I", .methodLink RX2 107 yX2_isEligible, .instanceMethod yX2_isEligible, .selects RX2 yX2_isEligible yX2_isEligible, .initialized RX2, .code yX2_isEligible cX2_isEligible 3 (some .boolean), .fieldLink RX2 101 "DeliveryBasket$Bond" "barred" "I", .fieldLink RX2 89 "DeliveryBasket$Bond" "periods" "I", .fieldLink RX2 19 "DeliveryBasket" "least" "I", .fieldLink RX2 22 "DeliveryBasket" "most" "I", .fieldLink RX2 104 "DeliveryBasket$Bond" "factor" "I", .methodLink RX2 47 yX2_within, .static yX2_within, .code yX2_within cX2_within 3 (some .boolean)] ++ wsX20 ++ wsX00)
def wsX2_count_r1 : List Cond := [Cond.fieldLink RX2 44 "DeliveryBasket" "size" "I", Cond.fieldLink RX2 15 "DeliveryBasket" "notional" "I", Cond.fieldLink RX2 19 "DeliveryBasket" "least" "I", Cond.fieldLink RX2 22 "DeliveryBasket" "most" "I", Cond.fieldLink RX2 28 "DeliveryBasket" "lattice" "LDeliveryBasket$Lattice;", Cond.fieldLink RX2 129 "DeliveryBasket$Lattice" "days" "I", Cond.fieldLink RX2 132 "DeliveryBasket$Lattice" "start" "I", Cond.fieldLink RX2 135 "DeliveryBasket$Lattice" "jump" "I", Cond.fieldLink RX2 138 "DeliveryBasket$Lattice" "carry" "I", Cond.fieldLink RX2 141 "DeliveryBasket$Lattice" "agreed" "I", Cond.methodLink RX2 122 yX2_eligibleBits, Cond.instanceMethod yX2_eligibleBits, Cond.selects RX2 yX2_eligibleBits yX2_eligibleBits, Cond.initialized RX2, Cond.code yX2_eligibleBits cX2_eligibleBits 3 (some .int), Cond.methodLink RX2 107 yX2_isEligible, Cond.instanceMethod yX2_isEligible, Cond.selects RX2 yX2_isEligible yX2_isEligible, Cond.code yX2_isEligible cX2_isEligible 3 (some .boolean), Cond.fieldLink RX2 11 "DeliveryBasket" "bonds" "[LDeliveryBasket$Bond;", Cond.fieldLink RX2 101 "DeliveryBasket$Bond" "barred" "I", Cond.fieldLink RX2 89 "DeliveryBasket$Bond" "periods" "I", Cond.fieldLink RX2 104 "DeliveryBasket$Bond" "factor" "I", Cond.methodLink RX2 47 yX2_within]
def wsX2_count_r2 : List Cond := [Cond.static yX2_within, Cond.code yX2_within cX2_within 3 (some .boolean), Cond.methodLink RX2 126 yX2_eligibleStock, Cond.instanceMethod yX2_eligibleStock, Cond.selects RX2 yX2_eligibleStock yX2_eligibleStock, Cond.code yX2_eligibleStock cX2_eligibleStock 3 (some .int), Cond.fieldLink RX2 98 "DeliveryBasket$Bond" "stock" "I"]
def wsX2_count : List Cond := .code yX2_count cX2_count 2 (some .int) :: ((wsX2_count_r1 ++ wsX2_count_r2) ++ wsX20 ++ wsX10 ++ wsX00)
def wsX2_layPrices_r1 : List Cond := [Cond.fieldLink RX2 44 "DeliveryBasket" "size" "I", Cond.fieldLink RX2 32 "DeliveryBasket" "prices" "[I", Cond.fieldLink RX2 11 "DeliveryBasket" "bonds" "[LDeliveryBasket$Bond;", Cond.methodLink RX2 152 yX2_isIn, Cond.static yX2_isIn, Cond.initialized RX2, Cond.code yX2_isIn cX2_isIn 2 (some .boolean), Cond.methodLink RX2 118 yX0_priceAt, Cond.instanceMethod yX0_priceAt, Cond.selects RX0 yX0_priceAt yX0_priceAt, Cond.initialized RX0, Cond.code yX0_priceAt cX0_priceAt 2 (some .int), Cond.fieldLink RX0 28 "DeliveryBasket$Bond" "spread" "I", Cond.methodLink RX0 70 Lib.Math.max.name, Cond.static Lib.Math.max.name, Cond.initialized "java/lang/Math", Cond.code Lib.Math.max.name Lib.Math.max.code 2 (some .int), Cond.methodLink RX0 64 yX0_worthAt, Cond.instanceMethod yX0_worthAt, Cond.selects RX0 yX0_worthAt yX0_worthAt, Cond.code yX0_worthAt cX0_worthAt 2 (some .int), Cond.fieldLink RX0 40 "DeliveryBasket$Bond" "worths" "[I", Cond.static yX2_within, Cond.code yX2_within cX2_within 3 (some .boolean)]
def wsX2_layPrices_r2 : List Cond := [Cond.methodLink RX0 75 yX0_discounted, Cond.instanceMethod yX0_discounted, Cond.selects RX0 yX0_discounted yX0_discounted, Cond.code yX0_discounted cX0_discounted 6 (some .int), Cond.fieldLink RX0 22 "DeliveryBasket$Bond" "periods" "I", Cond.fieldLink RX0 9 "DeliveryBasket$Bond" "flows" "[I", Cond.constantLong RX0 58 (10000)]
def wsX2_layPrices : List Cond := .code yX2_layPrices cX2_layPrices 4 none :: ((wsX2_layPrices_r1 ++ wsX2_layPrices_r2) ++ wsX20 ++ wsX00)
def wsX2_comesAhead : List Cond := .code yX2_comesAhead cX2_comesAhead 7 (some .boolean) :: ([.fieldLink RX2 32 "DeliveryBasket" "prices" "[I", .fieldLink RX2 11 "DeliveryBasket" "bonds" "[LDeliveryBasket$Bond;", .fieldLink RX2 104 "DeliveryBasket$Bond" "factor" "I"] ++ wsX20 ++ wsX00)
def wsX2_cheapestAt_r1 : List Cond := [Cond.fieldLink RX2 44 "DeliveryBasket" "size" "I", Cond.methodLink RX2 148 yX2_layPrices, Cond.instanceMethod yX2_layPrices, Cond.selects RX2 yX2_layPrices yX2_layPrices, Cond.initialized RX2, Cond.code yX2_layPrices cX2_layPrices 4 none, Cond.fieldLink RX2 32 "DeliveryBasket" "prices" "[I", Cond.fieldLink RX2 11 "DeliveryBasket" "bonds" "[LDeliveryBasket$Bond;", Cond.methodLink RX2 152 yX2_isIn, Cond.static yX2_isIn, Cond.code yX2_isIn cX2_isIn 2 (some .boolean), Cond.methodLink RX2 118 yX0_priceAt, Cond.instanceMethod yX0_priceAt, Cond.selects RX0 yX0_priceAt yX0_priceAt, Cond.initialized RX0, Cond.code yX0_priceAt cX0_priceAt 2 (some .int), Cond.fieldLink RX0 28 "DeliveryBasket$Bond" "spread" "I", Cond.methodLink RX0 70 Lib.Math.max.name, Cond.static Lib.Math.max.name, Cond.initialized "java/lang/Math", Cond.code Lib.Math.max.name Lib.Math.max.code 2 (some .int), Cond.methodLink RX0 64 yX0_worthAt, Cond.instanceMethod yX0_worthAt, Cond.selects RX0 yX0_worthAt yX0_worthAt]
def wsX2_cheapestAt_r2 : List Cond := [Cond.code yX0_worthAt cX0_worthAt 2 (some .int), Cond.fieldLink RX0 40 "DeliveryBasket$Bond" "worths" "[I", Cond.static yX2_within, Cond.code yX2_within cX2_within 3 (some .boolean), Cond.methodLink RX0 75 yX0_discounted, Cond.instanceMethod yX0_discounted, Cond.selects RX0 yX0_discounted yX0_discounted, Cond.code yX0_discounted cX0_discounted 6 (some .int), Cond.fieldLink RX0 22 "DeliveryBasket$Bond" "periods" "I", Cond.fieldLink RX0 9 "DeliveryBasket$Bond" "flows" "[I", Cond.constantLong RX0 58 (10000), Cond.methodLink RX2 238 yX2_comesAhead, Cond.instanceMethod yX2_comesAhead, Cond.selects RX2 yX2_comesAhead yX2_comesAhead, Cond.code yX2_comesAhead cX2_comesAhead 7 (some .boolean), Cond.fieldLink RX2 104 "DeliveryBasket$Bond" "factor" "I"]
def wsX2_cheapestAt : List Cond := .code yX2_cheapestAt cX2_cheapestAt 5 (some .int) :: ((wsX2_cheapestAt_r1 ++ wsX2_cheapestAt_r2) ++ wsX20 ++ wsX00)
def wsX2_cheapest_r1 : List Cond := [Cond.methodLink RX2 115 yX2_isRate, Cond.static yX2_isRate, Cond.initialized RX2, Cond.code yX2_isRate cX2_isRate 1 (some .boolean), Cond.methodLink RX2 47 yX2_within, Cond.static yX2_within, Cond.code yX2_within cX2_within 3 (some .boolean), Cond.methodLink RX2 122 yX2_eligibleBits, Cond.instanceMethod yX2_eligibleBits, Cond.selects RX2 yX2_eligibleBits yX2_eligibleBits, Cond.code yX2_eligibleBits cX2_eligibleBits 3 (some .int), Cond.fieldLink RX2 44 "DeliveryBasket" "size" "I", Cond.methodLink RX2 107 yX2_isEligible, Cond.instanceMethod yX2_isEligible, Cond.selects RX2 yX2_isEligible yX2_isEligible, Cond.code yX2_isEligible cX2_isEligible 3 (some .boolean), Cond.fieldLink RX2 11 "DeliveryBasket" "bonds" "[LDeliveryBasket$Bond;", Cond.fieldLink RX2 101 "DeliveryBasket$Bond" "barred" "I", Cond.fieldLink RX2 89 "DeliveryBasket$Bond" "periods" "I", Cond.fieldLink RX2 19 "DeliveryBasket" "least" "I", Cond.fieldLink RX2 22 "DeliveryBasket" "most" "I", Cond.fieldLink RX2 104 "DeliveryBasket$Bond" "factor" "I", Cond.methodLink RX2 144 yX2_cheapestAt, Cond.instanceMethod yX2_cheapestAt]
def wsX2_cheapest_r2 : List Cond := [Cond.selects RX2 yX2_cheapestAt yX2_cheapestAt, Cond.code yX2_cheapestAt cX2_cheapestAt 5 (some .int), Cond.methodLink RX2 148 yX2_layPrices, Cond.instanceMethod yX2_layPrices, Cond.selects RX2 yX2_layPrices yX2_layPrices, Cond.code yX2_layPrices cX2_layPrices 4 none, Cond.fieldLink RX2 32 "DeliveryBasket" "prices" "[I", Cond.methodLink RX2 152 yX2_isIn, Cond.static yX2_isIn, Cond.code yX2_isIn cX2_isIn 2 (some .boolean), Cond.methodLink RX2 118 yX0_priceAt, Cond.instanceMethod yX0_priceAt, Cond.selects RX0 yX0_priceAt yX0_priceAt, Cond.initialized RX0, Cond.code yX0_priceAt cX0_priceAt 2 (some .int), Cond.fieldLink RX0 28 "DeliveryBasket$Bond" "spread" "I", Cond.methodLink RX0 70 Lib.Math.max.name, Cond.static Lib.Math.max.name, Cond.initialized "java/lang/Math", Cond.code Lib.Math.max.name Lib.Math.max.code 2 (some .int), Cond.methodLink RX0 64 yX0_worthAt, Cond.instanceMethod yX0_worthAt, Cond.selects RX0 yX0_worthAt yX0_worthAt, Cond.code yX0_worthAt cX0_worthAt 2 (some .int)]
def wsX2_cheapest_r3 : List Cond := [Cond.fieldLink RX0 40 "DeliveryBasket$Bond" "worths" "[I", Cond.methodLink RX0 75 yX0_discounted, Cond.instanceMethod yX0_discounted, Cond.selects RX0 yX0_discounted yX0_discounted, Cond.code yX0_discounted cX0_discounted 6 (some .int), Cond.fieldLink RX0 22 "DeliveryBasket$Bond" "periods" "I", Cond.fieldLink RX0 9 "DeliveryBasket$Bond" "flows" "[I", Cond.constantLong RX0 58 (10000), Cond.methodLink RX2 238 yX2_comesAhead, Cond.instanceMethod yX2_comesAhead, Cond.selects RX2 yX2_comesAhead yX2_comesAhead, Cond.code yX2_comesAhead cX2_comesAhead 7 (some .boolean)]
def wsX2_cheapest : List Cond := .code yX2_cheapest cX2_cheapest 2 (some .int) :: ((wsX2_cheapest_r1 ++ (wsX2_cheapest_r2 ++ wsX2_cheapest_r3)) ++ wsX20 ++ wsX00)
def wsX2_howManyAhead : List Cond := .code yX2_howManyAhead cX2_howManyAhead 5 (some .int) :: ([.fieldLink RX2 44 "DeliveryBasket" "size" "I", .methodLink RX2 152 yX2_isIn, .static yX2_isIn, .initialized RX2, .code yX2_isIn cX2_isIn 2 (some .boolean), .methodLink RX2 238 yX2_comesAhead, .instanceMethod yX2_comesAhead, .selects RX2 yX2_comesAhead yX2_comesAhead, .code yX2_comesAhead cX2_comesAhead 7 (some .boolean), .fieldLink RX2 32 "DeliveryBasket" "prices" "[I", .fieldLink RX2 11 "DeliveryBasket" "bonds" "[LDeliveryBasket$Bond;", .fieldLink RX2 104 "DeliveryBasket$Bond" "factor" "I"] ++ wsX20 ++ wsX00)
def wsX2_ranked_r1 : List Cond := [Cond.fieldLink RX2 44 "DeliveryBasket" "size" "I", Cond.methodLink RX2 115 yX2_isRate, Cond.static yX2_isRate, Cond.initialized RX2, Cond.code yX2_isRate cX2_isRate 1 (some .boolean), Cond.methodLink RX2 47 yX2_within, Cond.static yX2_within, Cond.code yX2_within cX2_within 3 (some .boolean), Cond.methodLink RX2 122 yX2_eligibleBits, Cond.instanceMethod yX2_eligibleBits, Cond.selects RX2 yX2_eligibleBits yX2_eligibleBits, Cond.code yX2_eligibleBits cX2_eligibleBits 3 (some .int), Cond.methodLink RX2 107 yX2_isEligible, Cond.instanceMethod yX2_isEligible, Cond.selects RX2 yX2_isEligible yX2_isEligible, Cond.code yX2_isEligible cX2_isEligible 3 (some .boolean), Cond.fieldLink RX2 11 "DeliveryBasket" "bonds" "[LDeliveryBasket$Bond;", Cond.fieldLink RX2 101 "DeliveryBasket$Bond" "barred" "I", Cond.fieldLink RX2 89 "DeliveryBasket$Bond" "periods" "I", Cond.fieldLink RX2 19 "DeliveryBasket" "least" "I", Cond.fieldLink RX2 22 "DeliveryBasket" "most" "I", Cond.fieldLink RX2 104 "DeliveryBasket$Bond" "factor" "I", Cond.methodLink RX2 148 yX2_layPrices, Cond.instanceMethod yX2_layPrices]
def wsX2_ranked_r2 : List Cond := [Cond.selects RX2 yX2_layPrices yX2_layPrices, Cond.code yX2_layPrices cX2_layPrices 4 none, Cond.fieldLink RX2 32 "DeliveryBasket" "prices" "[I", Cond.methodLink RX2 152 yX2_isIn, Cond.static yX2_isIn, Cond.code yX2_isIn cX2_isIn 2 (some .boolean), Cond.methodLink RX2 118 yX0_priceAt, Cond.instanceMethod yX0_priceAt, Cond.selects RX0 yX0_priceAt yX0_priceAt, Cond.initialized RX0, Cond.code yX0_priceAt cX0_priceAt 2 (some .int), Cond.fieldLink RX0 28 "DeliveryBasket$Bond" "spread" "I", Cond.methodLink RX0 70 Lib.Math.max.name, Cond.static Lib.Math.max.name, Cond.initialized "java/lang/Math", Cond.code Lib.Math.max.name Lib.Math.max.code 2 (some .int), Cond.methodLink RX0 64 yX0_worthAt, Cond.instanceMethod yX0_worthAt, Cond.selects RX0 yX0_worthAt yX0_worthAt, Cond.code yX0_worthAt cX0_worthAt 2 (some .int), Cond.fieldLink RX0 40 "DeliveryBasket$Bond" "worths" "[I", Cond.methodLink RX0 75 yX0_discounted, Cond.instanceMethod yX0_discounted, Cond.selects RX0 yX0_discounted yX0_discounted]
def wsX2_ranked_r3 : List Cond := [Cond.code yX0_discounted cX0_discounted 6 (some .int), Cond.fieldLink RX0 22 "DeliveryBasket$Bond" "periods" "I", Cond.fieldLink RX0 9 "DeliveryBasket$Bond" "flows" "[I", Cond.constantLong RX0 58 (10000), Cond.methodLink RX2 156 yX2_howManyAhead, Cond.instanceMethod yX2_howManyAhead, Cond.selects RX2 yX2_howManyAhead yX2_howManyAhead, Cond.code yX2_howManyAhead cX2_howManyAhead 5 (some .int), Cond.methodLink RX2 238 yX2_comesAhead, Cond.instanceMethod yX2_comesAhead, Cond.selects RX2 yX2_comesAhead yX2_comesAhead, Cond.code yX2_comesAhead cX2_comesAhead 7 (some .boolean)]
def wsX2_ranked : List Cond := .code yX2_ranked cX2_ranked 5 (some .int) :: ((wsX2_ranked_r1 ++ (wsX2_ranked_r2 ++ wsX2_ranked_r3)) ++ wsX20 ++ wsX00)
def wsX2_markAt_r1 : List Cond := [Cond.fieldLink RX2 11 "DeliveryBasket" "bonds" "[LDeliveryBasket$Bond;", Cond.fieldLink RX2 104 "DeliveryBasket$Bond" "factor" "I", Cond.constantLong RX2 163 (-1), Cond.fieldLink RX2 32 "DeliveryBasket" "prices" "[I", Cond.constantLong RX2 241 (10000), Cond.methodLink RX2 144 yX2_cheapestAt, Cond.instanceMethod yX2_cheapestAt, Cond.selects RX2 yX2_cheapestAt yX2_cheapestAt, Cond.initialized RX2, Cond.code yX2_cheapestAt cX2_cheapestAt 5 (some .int), Cond.fieldLink RX2 44 "DeliveryBasket" "size" "I", Cond.methodLink RX2 148 yX2_layPrices, Cond.instanceMethod yX2_layPrices, Cond.selects RX2 yX2_layPrices yX2_layPrices, Cond.code yX2_layPrices cX2_layPrices 4 none, Cond.methodLink RX2 152 yX2_isIn, Cond.static yX2_isIn, Cond.code yX2_isIn cX2_isIn 2 (some .boolean), Cond.methodLink RX2 118 yX0_priceAt, Cond.instanceMethod yX0_priceAt, Cond.selects RX0 yX0_priceAt yX0_priceAt, Cond.initialized RX0, Cond.code yX0_priceAt cX0_priceAt 2 (some .int), Cond.fieldLink RX0 28 "DeliveryBasket$Bond" "spread" "I"]
def wsX2_markAt_r2 : List Cond := [Cond.methodLink RX0 70 Lib.Math.max.name, Cond.static Lib.Math.max.name, Cond.initialized "java/lang/Math", Cond.code Lib.Math.max.name Lib.Math.max.code 2 (some .int), Cond.methodLink RX0 64 yX0_worthAt, Cond.instanceMethod yX0_worthAt, Cond.selects RX0 yX0_worthAt yX0_worthAt, Cond.code yX0_worthAt cX0_worthAt 2 (some .int), Cond.fieldLink RX0 40 "DeliveryBasket$Bond" "worths" "[I", Cond.static yX2_within, Cond.code yX2_within cX2_within 3 (some .boolean), Cond.methodLink RX0 75 yX0_discounted, Cond.instanceMethod yX0_discounted, Cond.selects RX0 yX0_discounted yX0_discounted, Cond.code yX0_discounted cX0_discounted 6 (some .int), Cond.fieldLink RX0 22 "DeliveryBasket$Bond" "periods" "I", Cond.fieldLink RX0 9 "DeliveryBasket$Bond" "flows" "[I", Cond.constantLong RX0 58 (10000), Cond.methodLink RX2 238 yX2_comesAhead, Cond.instanceMethod yX2_comesAhead, Cond.selects RX2 yX2_comesAhead yX2_comesAhead, Cond.code yX2_comesAhead cX2_comesAhead 7 (some .boolean)]
def wsX2_markAt : List Cond := .code yX2_markAt cX2_markAt 4 (some .long) :: ((wsX2_markAt_r1 ++ wsX2_markAt_r2) ++ wsX20 ++ wsX00)
def wsX2_mark_r1 : List Cond := [Cond.constantLong RX2 163 (-1), Cond.methodLink RX2 115 yX2_isRate, Cond.static yX2_isRate, Cond.initialized RX2, Cond.code yX2_isRate cX2_isRate 1 (some .boolean), Cond.methodLink RX2 47 yX2_within, Cond.static yX2_within, Cond.code yX2_within cX2_within 3 (some .boolean), Cond.methodLink RX2 122 yX2_eligibleBits, Cond.instanceMethod yX2_eligibleBits, Cond.selects RX2 yX2_eligibleBits yX2_eligibleBits, Cond.code yX2_eligibleBits cX2_eligibleBits 3 (some .int), Cond.fieldLink RX2 44 "DeliveryBasket" "size" "I", Cond.methodLink RX2 107 yX2_isEligible, Cond.instanceMethod yX2_isEligible, Cond.selects RX2 yX2_isEligible yX2_isEligible, Cond.code yX2_isEligible cX2_isEligible 3 (some .boolean), Cond.fieldLink RX2 11 "DeliveryBasket" "bonds" "[LDeliveryBasket$Bond;", Cond.fieldLink RX2 101 "DeliveryBasket$Bond" "barred" "I", Cond.fieldLink RX2 89 "DeliveryBasket$Bond" "periods" "I", Cond.fieldLink RX2 19 "DeliveryBasket" "least" "I", Cond.fieldLink RX2 22 "DeliveryBasket" "most" "I", Cond.fieldLink RX2 104 "DeliveryBasket$Bond" "factor" "I", Cond.methodLink RX2 159 yX2_markAt]
def wsX2_mark_r2 : List Cond := [Cond.instanceMethod yX2_markAt, Cond.selects RX2 yX2_markAt yX2_markAt, Cond.code yX2_markAt cX2_markAt 4 (some .long), Cond.fieldLink RX2 32 "DeliveryBasket" "prices" "[I", Cond.constantLong RX2 241 (10000), Cond.methodLink RX2 144 yX2_cheapestAt, Cond.instanceMethod yX2_cheapestAt, Cond.selects RX2 yX2_cheapestAt yX2_cheapestAt, Cond.code yX2_cheapestAt cX2_cheapestAt 5 (some .int), Cond.methodLink RX2 148 yX2_layPrices, Cond.instanceMethod yX2_layPrices, Cond.selects RX2 yX2_layPrices yX2_layPrices, Cond.code yX2_layPrices cX2_layPrices 4 none, Cond.methodLink RX2 152 yX2_isIn, Cond.static yX2_isIn, Cond.code yX2_isIn cX2_isIn 2 (some .boolean), Cond.methodLink RX2 118 yX0_priceAt, Cond.instanceMethod yX0_priceAt, Cond.selects RX0 yX0_priceAt yX0_priceAt, Cond.initialized RX0, Cond.code yX0_priceAt cX0_priceAt 2 (some .int), Cond.fieldLink RX0 28 "DeliveryBasket$Bond" "spread" "I", Cond.methodLink RX0 70 Lib.Math.max.name, Cond.static Lib.Math.max.name]
def wsX2_mark_r3 : List Cond := [Cond.initialized "java/lang/Math", Cond.code Lib.Math.max.name Lib.Math.max.code 2 (some .int), Cond.methodLink RX0 64 yX0_worthAt, Cond.instanceMethod yX0_worthAt, Cond.selects RX0 yX0_worthAt yX0_worthAt, Cond.code yX0_worthAt cX0_worthAt 2 (some .int), Cond.fieldLink RX0 40 "DeliveryBasket$Bond" "worths" "[I", Cond.methodLink RX0 75 yX0_discounted, Cond.instanceMethod yX0_discounted, Cond.selects RX0 yX0_discounted yX0_discounted, Cond.code yX0_discounted cX0_discounted 6 (some .int), Cond.fieldLink RX0 22 "DeliveryBasket$Bond" "periods" "I", Cond.fieldLink RX0 9 "DeliveryBasket$Bond" "flows" "[I", Cond.constantLong RX0 58 (10000), Cond.methodLink RX2 238 yX2_comesAhead, Cond.instanceMethod yX2_comesAhead, Cond.selects RX2 yX2_comesAhead yX2_comesAhead, Cond.code yX2_comesAhead cX2_comesAhead 7 (some .boolean)]
def wsX2_mark : List Cond := .code yX2_mark cX2_mark 2 (some .long) :: ((wsX2_mark_r1 ++ (wsX2_mark_r2 ++ wsX2_mark_r3)) ++ wsX20 ++ wsX00)
def wsX2_gap_r1 : List Cond := [Cond.classLink RX2 76 "java/util/NoSuchElementException", Cond.initialized "java/util/NoSuchElementException", Cond.fieldLink RX2 11 "DeliveryBasket" "bonds" "[LDeliveryBasket$Bond;", Cond.methodLink RX2 63 yX2_has, Cond.instanceMethod yX2_has, Cond.selects RX2 yX2_has yX2_has, Cond.initialized RX2, Cond.code yX2_has cX2_has 2 (some .boolean), Cond.fieldLink RX2 44 "DeliveryBasket" "size" "I", Cond.methodLink RX2 47 yX2_within, Cond.static yX2_within, Cond.code yX2_within cX2_within 3 (some .boolean), Cond.methodLink RX2 107 yX2_isEligible, Cond.instanceMethod yX2_isEligible, Cond.selects RX2 yX2_isEligible yX2_isEligible, Cond.code yX2_isEligible cX2_isEligible 3 (some .boolean), Cond.fieldLink RX2 101 "DeliveryBasket$Bond" "barred" "I", Cond.fieldLink RX2 89 "DeliveryBasket$Bond" "periods" "I", Cond.fieldLink RX2 19 "DeliveryBasket" "least" "I", Cond.fieldLink RX2 22 "DeliveryBasket" "most" "I", Cond.fieldLink RX2 104 "DeliveryBasket$Bond" "factor" "I", Cond.methodLink RX2 115 yX2_isRate, Cond.static yX2_isRate, Cond.code yX2_isRate cX2_isRate 1 (some .boolean)]
def wsX2_gap_r2 : List Cond := [Cond.methodLink RX2 122 yX2_eligibleBits, Cond.instanceMethod yX2_eligibleBits, Cond.selects RX2 yX2_eligibleBits yX2_eligibleBits, Cond.code yX2_eligibleBits cX2_eligibleBits 3 (some .int), Cond.methodLink RX2 159 yX2_markAt, Cond.instanceMethod yX2_markAt, Cond.selects RX2 yX2_markAt yX2_markAt, Cond.code yX2_markAt cX2_markAt 4 (some .long), Cond.constantLong RX2 163 (-1), Cond.fieldLink RX2 32 "DeliveryBasket" "prices" "[I", Cond.constantLong RX2 241 (10000), Cond.methodLink RX2 144 yX2_cheapestAt, Cond.instanceMethod yX2_cheapestAt, Cond.selects RX2 yX2_cheapestAt yX2_cheapestAt, Cond.code yX2_cheapestAt cX2_cheapestAt 5 (some .int), Cond.methodLink RX2 148 yX2_layPrices, Cond.instanceMethod yX2_layPrices, Cond.selects RX2 yX2_layPrices yX2_layPrices, Cond.code yX2_layPrices cX2_layPrices 4 none, Cond.methodLink RX2 152 yX2_isIn, Cond.static yX2_isIn, Cond.code yX2_isIn cX2_isIn 2 (some .boolean), Cond.methodLink RX2 118 yX0_priceAt, Cond.instanceMethod yX0_priceAt]
def wsX2_gap_r3 : List Cond := [Cond.selects RX0 yX0_priceAt yX0_priceAt, Cond.initialized RX0, Cond.code yX0_priceAt cX0_priceAt 2 (some .int), Cond.fieldLink RX0 28 "DeliveryBasket$Bond" "spread" "I", Cond.methodLink RX0 70 Lib.Math.max.name, Cond.static Lib.Math.max.name, Cond.initialized "java/lang/Math", Cond.code Lib.Math.max.name Lib.Math.max.code 2 (some .int), Cond.methodLink RX0 64 yX0_worthAt, Cond.instanceMethod yX0_worthAt, Cond.selects RX0 yX0_worthAt yX0_worthAt, Cond.code yX0_worthAt cX0_worthAt 2 (some .int), Cond.fieldLink RX0 40 "DeliveryBasket$Bond" "worths" "[I", Cond.methodLink RX0 75 yX0_discounted, Cond.instanceMethod yX0_discounted, Cond.selects RX0 yX0_discounted yX0_discounted, Cond.code yX0_discounted cX0_discounted 6 (some .int), Cond.fieldLink RX0 22 "DeliveryBasket$Bond" "periods" "I", Cond.fieldLink RX0 9 "DeliveryBasket$Bond" "flows" "[I", Cond.constantLong RX0 58 (10000), Cond.methodLink RX2 238 yX2_comesAhead, Cond.instanceMethod yX2_comesAhead, Cond.selects RX2 yX2_comesAhead yX2_comesAhead, Cond.code yX2_comesAhead cX2_comesAhead 7 (some .boolean)]
def wsX2_gap_r4 : List Cond := [Cond.methodLink RX2 167 yX0_invoiceBy, Cond.instanceMethod yX0_invoiceBy, Cond.selects RX0 yX0_invoiceBy yX0_invoiceBy, Cond.code yX0_invoiceBy cX0_invoiceBy 3 (some .long), Cond.fieldLink RX0 67 "DeliveryBasket$Bond" "factor" "I"]
def wsX2_gap : List Cond := .code yX2_gap cX2_gap 5 (some .long) :: ((wsX2_gap_r1 ++ (wsX2_gap_r2 ++ (wsX2_gap_r3 ++ wsX2_gap_r4))) ++ wsX20 ++ wsX00 ++ (vx_atS RX2 80 "java/util/NoSuchElementException" ["java/lang/RuntimeException", "java/lang/Exception"]).filter goodWord)
def wsX2_keepWorths : List Cond := .code yX2_keepWorths cX2_keepWorths 3 none :: ([.fieldLink RX2 44 "DeliveryBasket" "size" "I", .fieldLink RX2 11 "DeliveryBasket" "bonds" "[LDeliveryBasket$Bond;", .methodLink RX2 152 yX2_isIn, .static yX2_isIn, .initialized RX2, .code yX2_isIn cX2_isIn 2 (some .boolean), .methodLink RX2 236 yX0_keepWorths, .instanceMethod yX0_keepWorths, .selects RX0 yX0_keepWorths yX0_keepWorths, .initialized RX0, .code yX0_keepWorths cX0_keepWorths 1 none, .fieldLink RX0 40 "DeliveryBasket$Bond" "worths" "[I", .arrayClass .int] ++ wsX20 ++ wsX00)
def wsX2_switches_r1 : List Cond := [Cond.methodLink RX2 122 yX2_eligibleBits, Cond.instanceMethod yX2_eligibleBits, Cond.selects RX2 yX2_eligibleBits yX2_eligibleBits, Cond.initialized RX2, Cond.code yX2_eligibleBits cX2_eligibleBits 3 (some .int), Cond.fieldLink RX2 44 "DeliveryBasket" "size" "I", Cond.methodLink RX2 107 yX2_isEligible, Cond.instanceMethod yX2_isEligible, Cond.selects RX2 yX2_isEligible yX2_isEligible, Cond.code yX2_isEligible cX2_isEligible 3 (some .boolean), Cond.fieldLink RX2 11 "DeliveryBasket" "bonds" "[LDeliveryBasket$Bond;", Cond.fieldLink RX2 101 "DeliveryBasket$Bond" "barred" "I", Cond.fieldLink RX2 89 "DeliveryBasket$Bond" "periods" "I", Cond.fieldLink RX2 19 "DeliveryBasket" "least" "I", Cond.fieldLink RX2 22 "DeliveryBasket" "most" "I", Cond.fieldLink RX2 104 "DeliveryBasket$Bond" "factor" "I", Cond.methodLink RX2 47 yX2_within, Cond.static yX2_within, Cond.code yX2_within cX2_within 3 (some .boolean), Cond.methodLink RX2 115 yX2_isRate, Cond.static yX2_isRate, Cond.code yX2_isRate cX2_isRate 1 (some .boolean), Cond.methodLink RX2 171 yX2_keepWorths, Cond.instanceMethod yX2_keepWorths]
def wsX2_switches_r2 : List Cond := [Cond.selects RX2 yX2_keepWorths yX2_keepWorths, Cond.code yX2_keepWorths cX2_keepWorths 3 none, Cond.methodLink RX2 152 yX2_isIn, Cond.static yX2_isIn, Cond.code yX2_isIn cX2_isIn 2 (some .boolean), Cond.methodLink RX2 236 yX0_keepWorths, Cond.instanceMethod yX0_keepWorths, Cond.selects RX0 yX0_keepWorths yX0_keepWorths, Cond.initialized RX0, Cond.code yX0_keepWorths cX0_keepWorths 1 none, Cond.fieldLink RX0 40 "DeliveryBasket$Bond" "worths" "[I", Cond.arrayClass .int, Cond.methodLink RX2 144 yX2_cheapestAt, Cond.instanceMethod yX2_cheapestAt, Cond.selects RX2 yX2_cheapestAt yX2_cheapestAt, Cond.code yX2_cheapestAt cX2_cheapestAt 5 (some .int), Cond.methodLink RX2 148 yX2_layPrices, Cond.instanceMethod yX2_layPrices, Cond.selects RX2 yX2_layPrices yX2_layPrices, Cond.code yX2_layPrices cX2_layPrices 4 none, Cond.fieldLink RX2 32 "DeliveryBasket" "prices" "[I", Cond.methodLink RX2 118 yX0_priceAt, Cond.instanceMethod yX0_priceAt, Cond.selects RX0 yX0_priceAt yX0_priceAt]
def wsX2_switches_r3 : List Cond := [Cond.code yX0_priceAt cX0_priceAt 2 (some .int), Cond.fieldLink RX0 28 "DeliveryBasket$Bond" "spread" "I", Cond.methodLink RX0 70 Lib.Math.max.name, Cond.static Lib.Math.max.name, Cond.initialized "java/lang/Math", Cond.code Lib.Math.max.name Lib.Math.max.code 2 (some .int), Cond.methodLink RX0 64 yX0_worthAt, Cond.instanceMethod yX0_worthAt, Cond.selects RX0 yX0_worthAt yX0_worthAt, Cond.code yX0_worthAt cX0_worthAt 2 (some .int), Cond.methodLink RX0 75 yX0_discounted, Cond.instanceMethod yX0_discounted, Cond.selects RX0 yX0_discounted yX0_discounted, Cond.code yX0_discounted cX0_discounted 6 (some .int), Cond.fieldLink RX0 22 "DeliveryBasket$Bond" "periods" "I", Cond.fieldLink RX0 9 "DeliveryBasket$Bond" "flows" "[I", Cond.constantLong RX0 58 (10000), Cond.methodLink RX2 238 yX2_comesAhead, Cond.instanceMethod yX2_comesAhead, Cond.selects RX2 yX2_comesAhead yX2_comesAhead, Cond.code yX2_comesAhead cX2_comesAhead 7 (some .boolean)]
def wsX2_switches : List Cond := .code yX2_switches cX2_switches 9 (some .int) :: ((wsX2_switches_r1 ++ (wsX2_switches_r2 ++ wsX2_switches_r3)) ++ wsX20 ++ wsX00)
def wsX2_implied_r1 : List Cond := [Cond.methodLink RX2 122 yX2_eligibleBits, Cond.instanceMethod yX2_eligibleBits, Cond.selects RX2 yX2_eligibleBits yX2_eligibleBits, Cond.initialized RX2, Cond.code yX2_eligibleBits cX2_eligibleBits 3 (some .int), Cond.fieldLink RX2 44 "DeliveryBasket" "size" "I", Cond.methodLink RX2 107 yX2_isEligible, Cond.instanceMethod yX2_isEligible, Cond.selects RX2 yX2_isEligible yX2_isEligible, Cond.code yX2_isEligible cX2_isEligible 3 (some .boolean), Cond.fieldLink RX2 11 "DeliveryBasket" "bonds" "[LDeliveryBasket$Bond;", Cond.fieldLink RX2 101 "DeliveryBasket$Bond" "barred" "I", Cond.fieldLink RX2 89 "DeliveryBasket$Bond" "periods" "I", Cond.fieldLink RX2 19 "DeliveryBasket" "least" "I", Cond.fieldLink RX2 22 "DeliveryBasket" "most" "I", Cond.fieldLink RX2 104 "DeliveryBasket$Bond" "factor" "I", Cond.methodLink RX2 47 yX2_within, Cond.static yX2_within, Cond.code yX2_within cX2_within 3 (some .boolean), Cond.methodLink RX2 159 yX2_markAt, Cond.instanceMethod yX2_markAt, Cond.selects RX2 yX2_markAt yX2_markAt, Cond.code yX2_markAt cX2_markAt 4 (some .long), Cond.constantLong RX2 163 (-1)]
def wsX2_implied_r2 : List Cond := [Cond.fieldLink RX2 32 "DeliveryBasket" "prices" "[I", Cond.constantLong RX2 241 (10000), Cond.methodLink RX2 144 yX2_cheapestAt, Cond.instanceMethod yX2_cheapestAt, Cond.selects RX2 yX2_cheapestAt yX2_cheapestAt, Cond.code yX2_cheapestAt cX2_cheapestAt 5 (some .int), Cond.methodLink RX2 148 yX2_layPrices, Cond.instanceMethod yX2_layPrices, Cond.selects RX2 yX2_layPrices yX2_layPrices, Cond.code yX2_layPrices cX2_layPrices 4 none, Cond.methodLink RX2 152 yX2_isIn, Cond.static yX2_isIn, Cond.code yX2_isIn cX2_isIn 2 (some .boolean), Cond.methodLink RX2 118 yX0_priceAt, Cond.instanceMethod yX0_priceAt, Cond.selects RX0 yX0_priceAt yX0_priceAt, Cond.initialized RX0, Cond.code yX0_priceAt cX0_priceAt 2 (some .int), Cond.fieldLink RX0 28 "DeliveryBasket$Bond" "spread" "I", Cond.methodLink RX0 70 Lib.Math.max.name, Cond.static Lib.Math.max.name, Cond.initialized "java/lang/Math", Cond.code Lib.Math.max.name Lib.Math.max.code 2 (some .int), Cond.methodLink RX0 64 yX0_worthAt]
def wsX2_implied_r3 : List Cond := [Cond.instanceMethod yX0_worthAt, Cond.selects RX0 yX0_worthAt yX0_worthAt, Cond.code yX0_worthAt cX0_worthAt 2 (some .int), Cond.fieldLink RX0 40 "DeliveryBasket$Bond" "worths" "[I", Cond.methodLink RX0 75 yX0_discounted, Cond.instanceMethod yX0_discounted, Cond.selects RX0 yX0_discounted yX0_discounted, Cond.code yX0_discounted cX0_discounted 6 (some .int), Cond.fieldLink RX0 22 "DeliveryBasket$Bond" "periods" "I", Cond.fieldLink RX0 9 "DeliveryBasket$Bond" "flows" "[I", Cond.constantLong RX0 58 (10000), Cond.methodLink RX2 238 yX2_comesAhead, Cond.instanceMethod yX2_comesAhead, Cond.selects RX2 yX2_comesAhead yX2_comesAhead, Cond.code yX2_comesAhead cX2_comesAhead 7 (some .boolean)]
def wsX2_implied : List Cond := .code yX2_implied cX2_implied 6 (some .int) :: ((wsX2_implied_r1 ++ (wsX2_implied_r2 ++ wsX2_implied_r3)) ++ wsX20 ++ wsX00)
def wsX2_canAsk : List Cond := .code yX2_canAsk cX2_canAsk 3 (some .boolean) :: ([.constant RX2 184 (999999999), .methodLink RX2 47 yX2_within, .static yX2_within, .initialized RX2, .code yX2_within cX2_within 3 (some .boolean), .methodLink RX2 115 yX2_isRate, .static yX2_isRate, .code yX2_isRate cX2_isRate 1 (some .boolean)])
def wsX2_leastCost : List Cond := .code yX2_leastCost cX2_leastCost 4 (some .int) :: ([.fieldLink RX2 44 "DeliveryBasket" "size" "I", .fieldLink RX2 36 "DeliveryBasket" "costs" "[J", .methodLink RX2 152 yX2_isIn, .static yX2_isIn, .initialized RX2, .code yX2_isIn cX2_isIn 2 (some .boolean)] ++ wsX20)
def wsX2_takeCheapest_r1 : List Cond := [Cond.fieldLink RX2 40 "DeliveryBasket" "taken" "[I", Cond.fieldLink RX2 44 "DeliveryBasket" "size" "I", Cond.fieldLink RX2 36 "DeliveryBasket" "costs" "[J", Cond.fieldLink RX2 11 "DeliveryBasket" "bonds" "[LDeliveryBasket$Bond;", Cond.fieldLink RX2 98 "DeliveryBasket$Bond" "stock" "I", Cond.methodLink RX2 252 Lib.Math.min.name, Cond.static Lib.Math.min.name, Cond.initialized "java/lang/Math", Cond.code Lib.Math.min.name Lib.Math.min.code 2 (some .int), Cond.methodLink RX2 122 yX2_eligibleBits, Cond.instanceMethod yX2_eligibleBits, Cond.selects RX2 yX2_eligibleBits yX2_eligibleBits, Cond.initialized RX2, Cond.code yX2_eligibleBits cX2_eligibleBits 3 (some .int), Cond.methodLink RX2 107 yX2_isEligible, Cond.instanceMethod yX2_isEligible, Cond.selects RX2 yX2_isEligible yX2_isEligible, Cond.code yX2_isEligible cX2_isEligible 3 (some .boolean), Cond.fieldLink RX2 101 "DeliveryBasket$Bond" "barred" "I", Cond.fieldLink RX2 89 "DeliveryBasket$Bond" "periods" "I", Cond.fieldLink RX2 19 "DeliveryBasket" "least" "I", Cond.fieldLink RX2 22 "DeliveryBasket" "most" "I", Cond.fieldLink RX2 104 "DeliveryBasket$Bond" "factor" "I", Cond.methodLink RX2 47 yX2_within]
def wsX2_takeCheapest_r2 : List Cond := [Cond.static yX2_within, Cond.code yX2_within cX2_within 3 (some .boolean), Cond.methodLink RX2 243 yJ7_fill_53178, Cond.static yJ7_fill_53178, Cond.initialized RJ7, Cond.code yJ7_fill_53178 cJ7_fill_53178 4 none, Cond.methodLink RX2 118 yX0_priceAt, Cond.instanceMethod yX0_priceAt, Cond.selects RX0 yX0_priceAt yX0_priceAt, Cond.initialized RX0, Cond.code yX0_priceAt cX0_priceAt 2 (some .int), Cond.fieldLink RX0 28 "DeliveryBasket$Bond" "spread" "I", Cond.methodLink RX0 70 Lib.Math.max.name, Cond.static Lib.Math.max.name, Cond.code Lib.Math.max.name Lib.Math.max.code 2 (some .int), Cond.methodLink RX0 64 yX0_worthAt, Cond.instanceMethod yX0_worthAt, Cond.selects RX0 yX0_worthAt yX0_worthAt, Cond.code yX0_worthAt cX0_worthAt 2 (some .int), Cond.fieldLink RX0 40 "DeliveryBasket$Bond" "worths" "[I", Cond.methodLink RX0 75 yX0_discounted, Cond.instanceMethod yX0_discounted, Cond.selects RX0 yX0_discounted yX0_discounted, Cond.code yX0_discounted cX0_discounted 6 (some .int)]
def wsX2_takeCheapest_r3 : List Cond := [Cond.fieldLink RX0 22 "DeliveryBasket$Bond" "periods" "I", Cond.fieldLink RX0 9 "DeliveryBasket$Bond" "flows" "[I", Cond.constantLong RX0 58 (10000), Cond.methodLink RX2 167 yX0_invoiceBy, Cond.instanceMethod yX0_invoiceBy, Cond.selects RX0 yX0_invoiceBy yX0_invoiceBy, Cond.code yX0_invoiceBy cX0_invoiceBy 3 (some .long), Cond.fieldLink RX0 67 "DeliveryBasket$Bond" "factor" "I", Cond.methodLink RX2 249 yX2_leastCost, Cond.instanceMethod yX2_leastCost, Cond.selects RX2 yX2_leastCost yX2_leastCost, Cond.code yX2_leastCost cX2_leastCost 4 (some .int), Cond.methodLink RX2 152 yX2_isIn, Cond.static yX2_isIn, Cond.code yX2_isIn cX2_isIn 2 (some .boolean)]
def wsX2_takeCheapest : List Cond := .code yX2_takeCheapest cX2_takeCheapest 8 (some .boolean) :: ((wsX2_takeCheapest_r1 ++ (wsX2_takeCheapest_r2 ++ wsX2_takeCheapest_r3)) ++ wsX20 ++ wsX00)
def wsX2_meet_r1 : List Cond := [Cond.fieldLink RX2 40 "DeliveryBasket" "taken" "[I", Cond.methodLink RX2 174 yX2_canAsk, Cond.static yX2_canAsk, Cond.initialized RX2, Cond.code yX2_canAsk cX2_canAsk 3 (some .boolean), Cond.constant RX2 184 (999999999), Cond.methodLink RX2 47 yX2_within, Cond.static yX2_within, Cond.code yX2_within cX2_within 3 (some .boolean), Cond.methodLink RX2 115 yX2_isRate, Cond.static yX2_isRate, Cond.code yX2_isRate cX2_isRate 1 (some .boolean), Cond.methodLink RX2 63 yX2_has, Cond.instanceMethod yX2_has, Cond.selects RX2 yX2_has yX2_has, Cond.code yX2_has cX2_has 2 (some .boolean), Cond.fieldLink RX2 44 "DeliveryBasket" "size" "I", Cond.methodLink RX2 177 yX2_takeCheapest, Cond.instanceMethod yX2_takeCheapest, Cond.selects RX2 yX2_takeCheapest yX2_takeCheapest, Cond.code yX2_takeCheapest cX2_takeCheapest 8 (some .boolean), Cond.fieldLink RX2 36 "DeliveryBasket" "costs" "[J", Cond.fieldLink RX2 11 "DeliveryBasket" "bonds" "[LDeliveryBasket$Bond;", Cond.fieldLink RX2 98 "DeliveryBasket$Bond" "stock" "I"]
def wsX2_meet_r2 : List Cond := [Cond.methodLink RX2 252 Lib.Math.min.name, Cond.static Lib.Math.min.name, Cond.initialized "java/lang/Math", Cond.code Lib.Math.min.name Lib.Math.min.code 2 (some .int), Cond.methodLink RX2 122 yX2_eligibleBits, Cond.instanceMethod yX2_eligibleBits, Cond.selects RX2 yX2_eligibleBits yX2_eligibleBits, Cond.code yX2_eligibleBits cX2_eligibleBits 3 (some .int), Cond.methodLink RX2 107 yX2_isEligible, Cond.instanceMethod yX2_isEligible, Cond.selects RX2 yX2_isEligible yX2_isEligible, Cond.code yX2_isEligible cX2_isEligible 3 (some .boolean), Cond.fieldLink RX2 101 "DeliveryBasket$Bond" "barred" "I", Cond.fieldLink RX2 89 "DeliveryBasket$Bond" "periods" "I", Cond.fieldLink RX2 19 "DeliveryBasket" "least" "I", Cond.fieldLink RX2 22 "DeliveryBasket" "most" "I", Cond.fieldLink RX2 104 "DeliveryBasket$Bond" "factor" "I", Cond.methodLink RX2 243 yJ7_fill_53178, Cond.static yJ7_fill_53178, Cond.initialized RJ7, Cond.code yJ7_fill_53178 cJ7_fill_53178 4 none, Cond.methodLink RX2 118 yX0_priceAt, Cond.instanceMethod yX0_priceAt, Cond.selects RX0 yX0_priceAt yX0_priceAt]
def wsX2_meet_r3 : List Cond := [Cond.initialized RX0, Cond.code yX0_priceAt cX0_priceAt 2 (some .int), Cond.fieldLink RX0 28 "DeliveryBasket$Bond" "spread" "I", Cond.methodLink RX0 70 Lib.Math.max.name, Cond.static Lib.Math.max.name, Cond.code Lib.Math.max.name Lib.Math.max.code 2 (some .int), Cond.methodLink RX0 64 yX0_worthAt, Cond.instanceMethod yX0_worthAt, Cond.selects RX0 yX0_worthAt yX0_worthAt, Cond.code yX0_worthAt cX0_worthAt 2 (some .int), Cond.fieldLink RX0 40 "DeliveryBasket$Bond" "worths" "[I", Cond.methodLink RX0 75 yX0_discounted, Cond.instanceMethod yX0_discounted, Cond.selects RX0 yX0_discounted yX0_discounted, Cond.code yX0_discounted cX0_discounted 6 (some .int), Cond.fieldLink RX0 22 "DeliveryBasket$Bond" "periods" "I", Cond.fieldLink RX0 9 "DeliveryBasket$Bond" "flows" "[I", Cond.constantLong RX0 58 (10000), Cond.methodLink RX2 167 yX0_invoiceBy, Cond.instanceMethod yX0_invoiceBy, Cond.selects RX0 yX0_invoiceBy yX0_invoiceBy, Cond.code yX0_invoiceBy cX0_invoiceBy 3 (some .long), Cond.fieldLink RX0 67 "DeliveryBasket$Bond" "factor" "I", Cond.methodLink RX2 249 yX2_leastCost]
def wsX2_meet_r4 : List Cond := [Cond.instanceMethod yX2_leastCost, Cond.selects RX2 yX2_leastCost yX2_leastCost, Cond.code yX2_leastCost cX2_leastCost 4 (some .int), Cond.methodLink RX2 152 yX2_isIn, Cond.static yX2_isIn, Cond.code yX2_isIn cX2_isIn 2 (some .boolean)]
def wsX2_meet : List Cond := .code yX2_meet cX2_meet 6 (some .int) :: ((wsX2_meet_r1 ++ (wsX2_meet_r2 ++ (wsX2_meet_r3 ++ wsX2_meet_r4))) ++ wsX20 ++ wsX00)
def wsX2_cost_r1 : List Cond := [Cond.classLink RX2 76 "java/util/NoSuchElementException", Cond.initialized "java/util/NoSuchElementException", Cond.fieldLink RX2 44 "DeliveryBasket" "size" "I", Cond.fieldLink RX2 40 "DeliveryBasket" "taken" "[I", Cond.fieldLink RX2 36 "DeliveryBasket" "costs" "[J", Cond.methodLink RX2 174 yX2_canAsk, Cond.static yX2_canAsk, Cond.initialized RX2, Cond.code yX2_canAsk cX2_canAsk 3 (some .boolean), Cond.constant RX2 184 (999999999), Cond.methodLink RX2 47 yX2_within, Cond.static yX2_within, Cond.code yX2_within cX2_within 3 (some .boolean), Cond.methodLink RX2 115 yX2_isRate, Cond.static yX2_isRate, Cond.code yX2_isRate cX2_isRate 1 (some .boolean), Cond.methodLink RX2 177 yX2_takeCheapest, Cond.instanceMethod yX2_takeCheapest, Cond.selects RX2 yX2_takeCheapest yX2_takeCheapest, Cond.code yX2_takeCheapest cX2_takeCheapest 8 (some .boolean), Cond.fieldLink RX2 11 "DeliveryBasket" "bonds" "[LDeliveryBasket$Bond;", Cond.fieldLink RX2 98 "DeliveryBasket$Bond" "stock" "I", Cond.methodLink RX2 252 Lib.Math.min.name, Cond.static Lib.Math.min.name]
def wsX2_cost_r2 : List Cond := [Cond.initialized "java/lang/Math", Cond.code Lib.Math.min.name Lib.Math.min.code 2 (some .int), Cond.methodLink RX2 122 yX2_eligibleBits, Cond.instanceMethod yX2_eligibleBits, Cond.selects RX2 yX2_eligibleBits yX2_eligibleBits, Cond.code yX2_eligibleBits cX2_eligibleBits 3 (some .int), Cond.methodLink RX2 107 yX2_isEligible, Cond.instanceMethod yX2_isEligible, Cond.selects RX2 yX2_isEligible yX2_isEligible, Cond.code yX2_isEligible cX2_isEligible 3 (some .boolean), Cond.fieldLink RX2 101 "DeliveryBasket$Bond" "barred" "I", Cond.fieldLink RX2 89 "DeliveryBasket$Bond" "periods" "I", Cond.fieldLink RX2 19 "DeliveryBasket" "least" "I", Cond.fieldLink RX2 22 "DeliveryBasket" "most" "I", Cond.fieldLink RX2 104 "DeliveryBasket$Bond" "factor" "I", Cond.methodLink RX2 243 yJ7_fill_53178, Cond.static yJ7_fill_53178, Cond.initialized RJ7, Cond.code yJ7_fill_53178 cJ7_fill_53178 4 none, Cond.methodLink RX2 118 yX0_priceAt, Cond.instanceMethod yX0_priceAt, Cond.selects RX0 yX0_priceAt yX0_priceAt, Cond.initialized RX0, Cond.code yX0_priceAt cX0_priceAt 2 (some .int)]
def wsX2_cost_r3 : List Cond := [Cond.fieldLink RX0 28 "DeliveryBasket$Bond" "spread" "I", Cond.methodLink RX0 70 Lib.Math.max.name, Cond.static Lib.Math.max.name, Cond.code Lib.Math.max.name Lib.Math.max.code 2 (some .int), Cond.methodLink RX0 64 yX0_worthAt, Cond.instanceMethod yX0_worthAt, Cond.selects RX0 yX0_worthAt yX0_worthAt, Cond.code yX0_worthAt cX0_worthAt 2 (some .int), Cond.fieldLink RX0 40 "DeliveryBasket$Bond" "worths" "[I", Cond.methodLink RX0 75 yX0_discounted, Cond.instanceMethod yX0_discounted, Cond.selects RX0 yX0_discounted yX0_discounted, Cond.code yX0_discounted cX0_discounted 6 (some .int), Cond.fieldLink RX0 22 "DeliveryBasket$Bond" "periods" "I", Cond.fieldLink RX0 9 "DeliveryBasket$Bond" "flows" "[I", Cond.constantLong RX0 58 (10000), Cond.methodLink RX2 167 yX0_invoiceBy, Cond.instanceMethod yX0_invoiceBy, Cond.selects RX0 yX0_invoiceBy yX0_invoiceBy, Cond.code yX0_invoiceBy cX0_invoiceBy 3 (some .long), Cond.fieldLink RX0 67 "DeliveryBasket$Bond" "factor" "I", Cond.methodLink RX2 249 yX2_leastCost, Cond.instanceMethod yX2_leastCost, Cond.selects RX2 yX2_leastCost yX2_leastCost]
def wsX2_cost_r4 : List Cond := [Cond.code yX2_leastCost cX2_leastCost 4 (some .int), Cond.methodLink RX2 152 yX2_isIn, Cond.static yX2_isIn, Cond.code yX2_isIn cX2_isIn 2 (some .boolean)]
def wsX2_cost : List Cond := .code yX2_cost cX2_cost 7 (some .long) :: ((wsX2_cost_r1 ++ (wsX2_cost_r2 ++ (wsX2_cost_r3 ++ wsX2_cost_r4))) ++ wsX20 ++ wsX00 ++ (vx_atS RX2 80 "java/util/NoSuchElementException" ["java/lang/RuntimeException", "java/lang/Exception"]).filter goodWord)
def wsX2_tree : List Cond := .code yX2_tree cX2_tree 6 (some .boolean) :: ([.constant RX2 182 (-1000000), .constant RX2 183 (1000000), .constant RX2 184 (999999999), .fieldLink RX2 28 "DeliveryBasket" "lattice" "LDeliveryBasket$Lattice;", .methodLink RX2 47 yX2_within, .static yX2_within, .initialized RX2, .code yX2_within cX2_within 3 (some .boolean), .methodLink RX2 115 yX2_isRate, .static yX2_isRate, .code yX2_isRate cX2_isRate 1 (some .boolean), .methodLink RX2 185 yX1_change, .instanceMethod yX1_change, .selects RX1 yX1_change yX1_change, .initialized RX1, .code yX1_change cX1_change 6 (some .boolean), .fieldLink RX1 49 "DeliveryBasket$Lattice" "days" "I", .fieldLink RX1 9 "DeliveryBasket$Lattice" "start" "I", .fieldLink RX1 15 "DeliveryBasket$Lattice" "jump" "I", .fieldLink RX1 52 "DeliveryBasket$Lattice" "carry" "I", .fieldLink RX1 19 "DeliveryBasket$Lattice" "agreed" "I"] ++ wsX20 ++ wsX10)
def wsX2_rate_r1 : List Cond := [Cond.fieldLink RX2 28 "DeliveryBasket" "lattice" "LDeliveryBasket$Lattice;", Cond.methodLink RX2 189 yX1_hasNode, Cond.instanceMethod yX1_hasNode, Cond.selects RX1 yX1_hasNode yX1_hasNode, Cond.initialized RX1, Cond.code yX1_hasNode cX1_hasNode 3 (some .boolean), Cond.methodLink RX1 59 yX1_hasDay, Cond.instanceMethod yX1_hasDay, Cond.selects RX1 yX1_hasDay yX1_hasDay, Cond.code yX1_hasDay cX1_hasDay 2 (some .boolean), Cond.fieldLink RX1 49 "DeliveryBasket$Lattice" "days" "I", Cond.static yX2_within, Cond.initialized RX2, Cond.code yX2_within cX2_within 3 (some .boolean), Cond.methodLink RX2 192 yX1_level, Cond.instanceMethod yX1_level, Cond.selects RX1 yX1_level yX1_level, Cond.code yX1_level cX1_level 3 (some .int), Cond.methodLink RX2 195 yX1_rateAt, Cond.instanceMethod yX1_rateAt, Cond.selects RX1 yX1_rateAt yX1_rateAt, Cond.code yX1_rateAt cX1_rateAt 2 (some .int), Cond.fieldLink RX1 9 "DeliveryBasket$Lattice" "start" "I", Cond.fieldLink RX1 15 "DeliveryBasket$Lattice" "jump" "I"]
def wsX2_rate_r2 : List Cond := [Cond.methodLink RX1 63 Lib.Math.min.name, Cond.static Lib.Math.min.name, Cond.initialized "java/lang/Math", Cond.code Lib.Math.min.name Lib.Math.min.code 2 (some .int), Cond.methodLink RX1 69 Lib.Math.max.name, Cond.static Lib.Math.max.name, Cond.code Lib.Math.max.name Lib.Math.max.code 2 (some .int)]
def wsX2_rate : List Cond := .code yX2_rate cX2_rate 3 (some .int) :: ((wsX2_rate_r1 ++ wsX2_rate_r2) ++ wsX20 ++ wsX10)
def wsX2_valueBy_r1 : List Cond := [Cond.fieldLink RX2 28 "DeliveryBasket" "lattice" "LDeliveryBasket$Lattice;", Cond.fieldLink RX2 11 "DeliveryBasket" "bonds" "[LDeliveryBasket$Bond;", Cond.fieldLink RX2 44 "DeliveryBasket" "size" "I", Cond.fieldLink RX2 141 "DeliveryBasket$Lattice" "agreed" "I", Cond.fieldLink RX2 129 "DeliveryBasket$Lattice" "days" "I", Cond.methodLink RX2 220 yX1_layPrices, Cond.instanceMethod yX1_layPrices, Cond.selects RX1 yX1_layPrices yX1_layPrices, Cond.initialized RX1, Cond.code yX1_layPrices cX1_layPrices 6 none, Cond.fieldLink RX1 49 "DeliveryBasket$Lattice" "days" "I", Cond.fieldLink RX1 32 "DeliveryBasket$Lattice" "levelPrices" "[[I", Cond.methodLink RX1 72 yX1_rateAt, Cond.instanceMethod yX1_rateAt, Cond.selects RX1 yX1_rateAt yX1_rateAt, Cond.code yX1_rateAt cX1_rateAt 2 (some .int), Cond.fieldLink RX1 9 "DeliveryBasket$Lattice" "start" "I", Cond.fieldLink RX1 15 "DeliveryBasket$Lattice" "jump" "I", Cond.methodLink RX1 63 Lib.Math.min.name, Cond.static Lib.Math.min.name, Cond.initialized "java/lang/Math", Cond.code Lib.Math.min.name Lib.Math.min.code 2 (some .int), Cond.methodLink RX1 69 Lib.Math.max.name, Cond.static Lib.Math.max.name]
def wsX2_valueBy_r2 : List Cond := [Cond.code Lib.Math.max.name Lib.Math.max.code 2 (some .int), Cond.methodLink RX1 76 yX0_priceAt, Cond.instanceMethod yX0_priceAt, Cond.selects RX0 yX0_priceAt yX0_priceAt, Cond.initialized RX0, Cond.code yX0_priceAt cX0_priceAt 2 (some .int), Cond.fieldLink RX0 28 "DeliveryBasket$Bond" "spread" "I", Cond.methodLink RX0 70 Lib.Math.max.name, Cond.methodLink RX0 64 yX0_worthAt, Cond.instanceMethod yX0_worthAt, Cond.selects RX0 yX0_worthAt yX0_worthAt, Cond.code yX0_worthAt cX0_worthAt 2 (some .int), Cond.fieldLink RX0 40 "DeliveryBasket$Bond" "worths" "[I", Cond.static yX2_within, Cond.initialized RX2, Cond.code yX2_within cX2_within 3 (some .boolean), Cond.methodLink RX0 75 yX0_discounted, Cond.instanceMethod yX0_discounted, Cond.selects RX0 yX0_discounted yX0_discounted, Cond.code yX0_discounted cX0_discounted 6 (some .int), Cond.fieldLink RX0 22 "DeliveryBasket$Bond" "periods" "I", Cond.fieldLink RX0 9 "DeliveryBasket$Bond" "flows" "[I", Cond.constantLong RX0 58 (10000), Cond.methodLink RX2 223 yX1_layNow]
def wsX2_valueBy_r3 : List Cond := [Cond.instanceMethod yX1_layNow, Cond.selects RX1 yX1_layNow yX1_layNow, Cond.code yX1_layNow cX1_layNow 6 none, Cond.fieldLink RX1 43 "DeliveryBasket$Lattice" "invoices" "[J", Cond.fieldLink RX1 39 "DeliveryBasket$Lattice" "levelPick" "[I", Cond.fieldLink RX1 35 "DeliveryBasket$Lattice" "levelNow" "[J", Cond.static yX2_isIn, Cond.code yX2_isIn cX2_isIn 2 (some .boolean), Cond.methodLink RX1 85 yX0_invoiceBy, Cond.instanceMethod yX0_invoiceBy, Cond.selects RX0 yX0_invoiceBy yX0_invoiceBy, Cond.code yX0_invoiceBy cX0_invoiceBy 3 (some .long), Cond.fieldLink RX0 67 "DeliveryBasket$Bond" "factor" "I", Cond.methodLink RX1 89 yX1_bestOn, Cond.instanceMethod yX1_bestOn, Cond.selects RX1 yX1_bestOn yX1_bestOn, Cond.code yX1_bestOn cX1_bestOn 9 (some .int), Cond.methodLink RX2 227 yX1_rollBack, Cond.instanceMethod yX1_rollBack, Cond.selects RX1 yX1_rollBack yX1_rollBack, Cond.code yX1_rollBack cX1_rollBack 7 (some .long), Cond.fieldLink RX1 24 "DeliveryBasket$Lattice" "values" "[[J", Cond.constantLong RX1 96 (2), Cond.fieldLink RX1 52 "DeliveryBasket$Lattice" "carry" "I"]
def wsX2_valueBy_r4 : List Cond := [Cond.fieldLink RX1 29 "DeliveryBasket$Lattice" "acts" "[[I", Cond.methodLink RX1 92 yX1_deliverAt, Cond.instanceMethod yX1_deliverAt, Cond.selects RX1 yX1_deliverAt yX1_deliverAt, Cond.code yX1_deliverAt cX1_deliverAt 4 none, Cond.methodLink RX1 102 yX1_level, Cond.instanceMethod yX1_level, Cond.selects RX1 yX1_level yX1_level, Cond.code yX1_level cX1_level 3 (some .int), Cond.methodLink RX1 98 yJ9_floorDiv_f86c9, Cond.static yJ9_floorDiv_f86c9, Cond.initialized RJ9, Cond.code yJ9_floorDiv_f86c9 cJ9_floorDiv_f86c9 6 (some .long)]
def wsX2_valueBy : List Cond := .code yX2_valueBy cX2_valueBy 2 (some .long) :: ((wsX2_valueBy_r1 ++ (wsX2_valueBy_r2 ++ (wsX2_valueBy_r3 ++ wsX2_valueBy_r4))) ++ wsX20 ++ wsX10 ++ wsX00)
def wsX2_value_r1 : List Cond := [Cond.classLink RX2 76 "java/util/NoSuchElementException", Cond.initialized "java/util/NoSuchElementException", Cond.fieldLink RX2 28 "DeliveryBasket" "lattice" "LDeliveryBasket$Lattice;", Cond.fieldLink RX2 204 "DeliveryBasket$Lattice" "values" "[[J", Cond.methodLink RX2 122 yX2_eligibleBits, Cond.instanceMethod yX2_eligibleBits, Cond.selects RX2 yX2_eligibleBits yX2_eligibleBits, Cond.initialized RX2, Cond.code yX2_eligibleBits cX2_eligibleBits 3 (some .int), Cond.fieldLink RX2 44 "DeliveryBasket" "size" "I", Cond.methodLink RX2 107 yX2_isEligible, Cond.instanceMethod yX2_isEligible, Cond.selects RX2 yX2_isEligible yX2_isEligible, Cond.code yX2_isEligible cX2_isEligible 3 (some .boolean), Cond.fieldLink RX2 11 "DeliveryBasket" "bonds" "[LDeliveryBasket$Bond;", Cond.fieldLink RX2 101 "DeliveryBasket$Bond" "barred" "I", Cond.fieldLink RX2 89 "DeliveryBasket$Bond" "periods" "I", Cond.fieldLink RX2 19 "DeliveryBasket" "least" "I", Cond.fieldLink RX2 22 "DeliveryBasket" "most" "I", Cond.fieldLink RX2 104 "DeliveryBasket$Bond" "factor" "I", Cond.methodLink RX2 47 yX2_within, Cond.static yX2_within, Cond.code yX2_within cX2_within 3 (some .boolean), Cond.methodLink RX2 189 yX1_hasNode]
def wsX2_value_r2 : List Cond := [Cond.instanceMethod yX1_hasNode, Cond.selects RX1 yX1_hasNode yX1_hasNode, Cond.initialized RX1, Cond.code yX1_hasNode cX1_hasNode 3 (some .boolean), Cond.methodLink RX1 59 yX1_hasDay, Cond.instanceMethod yX1_hasDay, Cond.selects RX1 yX1_hasDay yX1_hasDay, Cond.code yX1_hasDay cX1_hasDay 2 (some .boolean), Cond.fieldLink RX1 49 "DeliveryBasket$Lattice" "days" "I", Cond.methodLink RX2 200 yX2_valueBy, Cond.instanceMethod yX2_valueBy, Cond.selects RX2 yX2_valueBy yX2_valueBy, Cond.code yX2_valueBy cX2_valueBy 2 (some .long), Cond.fieldLink RX2 141 "DeliveryBasket$Lattice" "agreed" "I", Cond.fieldLink RX2 129 "DeliveryBasket$Lattice" "days" "I", Cond.methodLink RX2 220 yX1_layPrices, Cond.instanceMethod yX1_layPrices, Cond.selects RX1 yX1_layPrices yX1_layPrices, Cond.code yX1_layPrices cX1_layPrices 6 none, Cond.fieldLink RX1 32 "DeliveryBasket$Lattice" "levelPrices" "[[I", Cond.methodLink RX1 72 yX1_rateAt, Cond.instanceMethod yX1_rateAt, Cond.selects RX1 yX1_rateAt yX1_rateAt, Cond.code yX1_rateAt cX1_rateAt 2 (some .int)]
def wsX2_value_r3 : List Cond := [Cond.fieldLink RX1 9 "DeliveryBasket$Lattice" "start" "I", Cond.fieldLink RX1 15 "DeliveryBasket$Lattice" "jump" "I", Cond.methodLink RX1 63 Lib.Math.min.name, Cond.static Lib.Math.min.name, Cond.initialized "java/lang/Math", Cond.code Lib.Math.min.name Lib.Math.min.code 2 (some .int), Cond.methodLink RX1 69 Lib.Math.max.name, Cond.static Lib.Math.max.name, Cond.code Lib.Math.max.name Lib.Math.max.code 2 (some .int), Cond.methodLink RX1 76 yX0_priceAt, Cond.instanceMethod yX0_priceAt, Cond.selects RX0 yX0_priceAt yX0_priceAt, Cond.initialized RX0, Cond.code yX0_priceAt cX0_priceAt 2 (some .int), Cond.fieldLink RX0 28 "DeliveryBasket$Bond" "spread" "I", Cond.methodLink RX0 70 Lib.Math.max.name, Cond.methodLink RX0 64 yX0_worthAt, Cond.instanceMethod yX0_worthAt, Cond.selects RX0 yX0_worthAt yX0_worthAt, Cond.code yX0_worthAt cX0_worthAt 2 (some .int), Cond.fieldLink RX0 40 "DeliveryBasket$Bond" "worths" "[I", Cond.methodLink RX0 75 yX0_discounted, Cond.instanceMethod yX0_discounted, Cond.selects RX0 yX0_discounted yX0_discounted]
def wsX2_value_r4 : List Cond := [Cond.code yX0_discounted cX0_discounted 6 (some .int), Cond.fieldLink RX0 22 "DeliveryBasket$Bond" "periods" "I", Cond.fieldLink RX0 9 "DeliveryBasket$Bond" "flows" "[I", Cond.constantLong RX0 58 (10000), Cond.methodLink RX2 223 yX1_layNow, Cond.instanceMethod yX1_layNow, Cond.selects RX1 yX1_layNow yX1_layNow, Cond.code yX1_layNow cX1_layNow 6 none, Cond.fieldLink RX1 43 "DeliveryBasket$Lattice" "invoices" "[J", Cond.fieldLink RX1 39 "DeliveryBasket$Lattice" "levelPick" "[I", Cond.fieldLink RX1 35 "DeliveryBasket$Lattice" "levelNow" "[J", Cond.static yX2_isIn, Cond.code yX2_isIn cX2_isIn 2 (some .boolean), Cond.methodLink RX1 85 yX0_invoiceBy, Cond.instanceMethod yX0_invoiceBy, Cond.selects RX0 yX0_invoiceBy yX0_invoiceBy, Cond.code yX0_invoiceBy cX0_invoiceBy 3 (some .long), Cond.fieldLink RX0 67 "DeliveryBasket$Bond" "factor" "I", Cond.methodLink RX1 89 yX1_bestOn, Cond.instanceMethod yX1_bestOn, Cond.selects RX1 yX1_bestOn yX1_bestOn, Cond.code yX1_bestOn cX1_bestOn 9 (some .int), Cond.methodLink RX2 227 yX1_rollBack, Cond.instanceMethod yX1_rollBack]
def wsX2_value_r5 : List Cond := [Cond.selects RX1 yX1_rollBack yX1_rollBack, Cond.code yX1_rollBack cX1_rollBack 7 (some .long), Cond.fieldLink RX1 24 "DeliveryBasket$Lattice" "values" "[[J", Cond.constantLong RX1 96 (2), Cond.fieldLink RX1 52 "DeliveryBasket$Lattice" "carry" "I", Cond.fieldLink RX1 29 "DeliveryBasket$Lattice" "acts" "[[I", Cond.methodLink RX1 92 yX1_deliverAt, Cond.instanceMethod yX1_deliverAt, Cond.selects RX1 yX1_deliverAt yX1_deliverAt, Cond.code yX1_deliverAt cX1_deliverAt 4 none, Cond.methodLink RX1 102 yX1_level, Cond.instanceMethod yX1_level, Cond.selects RX1 yX1_level yX1_level, Cond.code yX1_level cX1_level 3 (some .int), Cond.methodLink RX1 98 yJ9_floorDiv_f86c9, Cond.static yJ9_floorDiv_f86c9, Cond.initialized RJ9, Cond.code yJ9_floorDiv_f86c9 cJ9_floorDiv_f86c9 6 (some .long)]
def wsX2_value : List Cond := .code yX2_value cX2_value 4 (some .long) :: ((wsX2_value_r1 ++ (wsX2_value_r2 ++ (wsX2_value_r3 ++ (wsX2_value_r4 ++ wsX2_value_r5)))) ++ wsX20 ++ wsX10 ++ wsX00 ++ (vx_atS RX2 80 "java/util/NoSuchElementException" ["java/lang/RuntimeException", "java/lang/Exception"]).filter goodWord)
def wsX2_act_r1 : List Cond := [Cond.fieldLink RX2 28 "DeliveryBasket" "lattice" "LDeliveryBasket$Lattice;", Cond.fieldLink RX2 208 "DeliveryBasket$Lattice" "acts" "[[I", Cond.methodLink RX2 122 yX2_eligibleBits, Cond.instanceMethod yX2_eligibleBits, Cond.selects RX2 yX2_eligibleBits yX2_eligibleBits, Cond.initialized RX2, Cond.code yX2_eligibleBits cX2_eligibleBits 3 (some .int), Cond.fieldLink RX2 44 "DeliveryBasket" "size" "I", Cond.methodLink RX2 107 yX2_isEligible, Cond.instanceMethod yX2_isEligible, Cond.selects RX2 yX2_isEligible yX2_isEligible, Cond.code yX2_isEligible cX2_isEligible 3 (some .boolean), Cond.fieldLink RX2 11 "DeliveryBasket" "bonds" "[LDeliveryBasket$Bond;", Cond.fieldLink RX2 101 "DeliveryBasket$Bond" "barred" "I", Cond.fieldLink RX2 89 "DeliveryBasket$Bond" "periods" "I", Cond.fieldLink RX2 19 "DeliveryBasket" "least" "I", Cond.fieldLink RX2 22 "DeliveryBasket" "most" "I", Cond.fieldLink RX2 104 "DeliveryBasket$Bond" "factor" "I", Cond.methodLink RX2 47 yX2_within, Cond.static yX2_within, Cond.code yX2_within cX2_within 3 (some .boolean), Cond.methodLink RX2 189 yX1_hasNode, Cond.instanceMethod yX1_hasNode, Cond.selects RX1 yX1_hasNode yX1_hasNode]
def wsX2_act_r2 : List Cond := [Cond.initialized RX1, Cond.code yX1_hasNode cX1_hasNode 3 (some .boolean), Cond.methodLink RX1 59 yX1_hasDay, Cond.instanceMethod yX1_hasDay, Cond.selects RX1 yX1_hasDay yX1_hasDay, Cond.code yX1_hasDay cX1_hasDay 2 (some .boolean), Cond.fieldLink RX1 49 "DeliveryBasket$Lattice" "days" "I", Cond.methodLink RX2 200 yX2_valueBy, Cond.instanceMethod yX2_valueBy, Cond.selects RX2 yX2_valueBy yX2_valueBy, Cond.code yX2_valueBy cX2_valueBy 2 (some .long), Cond.fieldLink RX2 141 "DeliveryBasket$Lattice" "agreed" "I", Cond.fieldLink RX2 129 "DeliveryBasket$Lattice" "days" "I", Cond.methodLink RX2 220 yX1_layPrices, Cond.instanceMethod yX1_layPrices, Cond.selects RX1 yX1_layPrices yX1_layPrices, Cond.code yX1_layPrices cX1_layPrices 6 none, Cond.fieldLink RX1 32 "DeliveryBasket$Lattice" "levelPrices" "[[I", Cond.methodLink RX1 72 yX1_rateAt, Cond.instanceMethod yX1_rateAt, Cond.selects RX1 yX1_rateAt yX1_rateAt, Cond.code yX1_rateAt cX1_rateAt 2 (some .int), Cond.fieldLink RX1 9 "DeliveryBasket$Lattice" "start" "I", Cond.fieldLink RX1 15 "DeliveryBasket$Lattice" "jump" "I"]
def wsX2_act_r3 : List Cond := [Cond.methodLink RX1 63 Lib.Math.min.name, Cond.static Lib.Math.min.name, Cond.initialized "java/lang/Math", Cond.code Lib.Math.min.name Lib.Math.min.code 2 (some .int), Cond.methodLink RX1 69 Lib.Math.max.name, Cond.static Lib.Math.max.name, Cond.code Lib.Math.max.name Lib.Math.max.code 2 (some .int), Cond.methodLink RX1 76 yX0_priceAt, Cond.instanceMethod yX0_priceAt, Cond.selects RX0 yX0_priceAt yX0_priceAt, Cond.initialized RX0, Cond.code yX0_priceAt cX0_priceAt 2 (some .int), Cond.fieldLink RX0 28 "DeliveryBasket$Bond" "spread" "I", Cond.methodLink RX0 70 Lib.Math.max.name, Cond.methodLink RX0 64 yX0_worthAt, Cond.instanceMethod yX0_worthAt, Cond.selects RX0 yX0_worthAt yX0_worthAt, Cond.code yX0_worthAt cX0_worthAt 2 (some .int), Cond.fieldLink RX0 40 "DeliveryBasket$Bond" "worths" "[I", Cond.methodLink RX0 75 yX0_discounted, Cond.instanceMethod yX0_discounted, Cond.selects RX0 yX0_discounted yX0_discounted, Cond.code yX0_discounted cX0_discounted 6 (some .int), Cond.fieldLink RX0 22 "DeliveryBasket$Bond" "periods" "I"]
def wsX2_act_r4 : List Cond := [Cond.fieldLink RX0 9 "DeliveryBasket$Bond" "flows" "[I", Cond.constantLong RX0 58 (10000), Cond.methodLink RX2 223 yX1_layNow, Cond.instanceMethod yX1_layNow, Cond.selects RX1 yX1_layNow yX1_layNow, Cond.code yX1_layNow cX1_layNow 6 none, Cond.fieldLink RX1 43 "DeliveryBasket$Lattice" "invoices" "[J", Cond.fieldLink RX1 39 "DeliveryBasket$Lattice" "levelPick" "[I", Cond.fieldLink RX1 35 "DeliveryBasket$Lattice" "levelNow" "[J", Cond.static yX2_isIn, Cond.code yX2_isIn cX2_isIn 2 (some .boolean), Cond.methodLink RX1 85 yX0_invoiceBy, Cond.instanceMethod yX0_invoiceBy, Cond.selects RX0 yX0_invoiceBy yX0_invoiceBy, Cond.code yX0_invoiceBy cX0_invoiceBy 3 (some .long), Cond.fieldLink RX0 67 "DeliveryBasket$Bond" "factor" "I", Cond.methodLink RX1 89 yX1_bestOn, Cond.instanceMethod yX1_bestOn, Cond.selects RX1 yX1_bestOn yX1_bestOn, Cond.code yX1_bestOn cX1_bestOn 9 (some .int), Cond.methodLink RX2 227 yX1_rollBack, Cond.instanceMethod yX1_rollBack, Cond.selects RX1 yX1_rollBack yX1_rollBack, Cond.code yX1_rollBack cX1_rollBack 7 (some .long)]
def wsX2_act_r5 : List Cond := [Cond.fieldLink RX1 24 "DeliveryBasket$Lattice" "values" "[[J", Cond.constantLong RX1 96 (2), Cond.fieldLink RX1 52 "DeliveryBasket$Lattice" "carry" "I", Cond.fieldLink RX1 29 "DeliveryBasket$Lattice" "acts" "[[I", Cond.methodLink RX1 92 yX1_deliverAt, Cond.instanceMethod yX1_deliverAt, Cond.selects RX1 yX1_deliverAt yX1_deliverAt, Cond.code yX1_deliverAt cX1_deliverAt 4 none, Cond.methodLink RX1 102 yX1_level, Cond.instanceMethod yX1_level, Cond.selects RX1 yX1_level yX1_level, Cond.code yX1_level cX1_level 3 (some .int), Cond.methodLink RX1 98 yJ9_floorDiv_f86c9, Cond.static yJ9_floorDiv_f86c9, Cond.initialized RJ9, Cond.code yJ9_floorDiv_f86c9 cJ9_floorDiv_f86c9 6 (some .long)]
def wsX2_act : List Cond := .code yX2_act cX2_act 4 (some .int) :: ((wsX2_act_r1 ++ (wsX2_act_r2 ++ (wsX2_act_r3 ++ (wsX2_act_r4 ++ wsX2_act_r5)))) ++ wsX20 ++ wsX10 ++ wsX00)
def wsX2_path_r1 : List Cond := [Cond.fieldLink RX2 28 "DeliveryBasket" "lattice" "LDeliveryBasket$Lattice;", Cond.fieldLink RX2 129 "DeliveryBasket$Lattice" "days" "I", Cond.fieldLink RX2 208 "DeliveryBasket$Lattice" "acts" "[[I", Cond.methodLink RX2 122 yX2_eligibleBits, Cond.instanceMethod yX2_eligibleBits, Cond.selects RX2 yX2_eligibleBits yX2_eligibleBits, Cond.initialized RX2, Cond.code yX2_eligibleBits cX2_eligibleBits 3 (some .int), Cond.fieldLink RX2 44 "DeliveryBasket" "size" "I", Cond.methodLink RX2 107 yX2_isEligible, Cond.instanceMethod yX2_isEligible, Cond.selects RX2 yX2_isEligible yX2_isEligible, Cond.code yX2_isEligible cX2_isEligible 3 (some .boolean), Cond.fieldLink RX2 11 "DeliveryBasket" "bonds" "[LDeliveryBasket$Bond;", Cond.fieldLink RX2 101 "DeliveryBasket$Bond" "barred" "I", Cond.fieldLink RX2 89 "DeliveryBasket$Bond" "periods" "I", Cond.fieldLink RX2 19 "DeliveryBasket" "least" "I", Cond.fieldLink RX2 22 "DeliveryBasket" "most" "I", Cond.fieldLink RX2 104 "DeliveryBasket$Bond" "factor" "I", Cond.methodLink RX2 47 yX2_within, Cond.static yX2_within, Cond.code yX2_within cX2_within 3 (some .boolean), Cond.methodLink RX2 200 yX2_valueBy, Cond.instanceMethod yX2_valueBy]
def wsX2_path_r2 : List Cond := [Cond.selects RX2 yX2_valueBy yX2_valueBy, Cond.code yX2_valueBy cX2_valueBy 2 (some .long), Cond.fieldLink RX2 141 "DeliveryBasket$Lattice" "agreed" "I", Cond.methodLink RX2 220 yX1_layPrices, Cond.instanceMethod yX1_layPrices, Cond.selects RX1 yX1_layPrices yX1_layPrices, Cond.initialized RX1, Cond.code yX1_layPrices cX1_layPrices 6 none, Cond.fieldLink RX1 49 "DeliveryBasket$Lattice" "days" "I", Cond.fieldLink RX1 32 "DeliveryBasket$Lattice" "levelPrices" "[[I", Cond.methodLink RX1 72 yX1_rateAt, Cond.instanceMethod yX1_rateAt, Cond.selects RX1 yX1_rateAt yX1_rateAt, Cond.code yX1_rateAt cX1_rateAt 2 (some .int), Cond.fieldLink RX1 9 "DeliveryBasket$Lattice" "start" "I", Cond.fieldLink RX1 15 "DeliveryBasket$Lattice" "jump" "I", Cond.methodLink RX1 63 Lib.Math.min.name, Cond.static Lib.Math.min.name, Cond.initialized "java/lang/Math", Cond.code Lib.Math.min.name Lib.Math.min.code 2 (some .int), Cond.methodLink RX1 69 Lib.Math.max.name, Cond.static Lib.Math.max.name, Cond.code Lib.Math.max.name Lib.Math.max.code 2 (some .int), Cond.methodLink RX1 76 yX0_priceAt]
def wsX2_path_r3 : List Cond := [Cond.instanceMethod yX0_priceAt, Cond.selects RX0 yX0_priceAt yX0_priceAt, Cond.initialized RX0, Cond.code yX0_priceAt cX0_priceAt 2 (some .int), Cond.fieldLink RX0 28 "DeliveryBasket$Bond" "spread" "I", Cond.methodLink RX0 70 Lib.Math.max.name, Cond.methodLink RX0 64 yX0_worthAt, Cond.instanceMethod yX0_worthAt, Cond.selects RX0 yX0_worthAt yX0_worthAt, Cond.code yX0_worthAt cX0_worthAt 2 (some .int), Cond.fieldLink RX0 40 "DeliveryBasket$Bond" "worths" "[I", Cond.methodLink RX0 75 yX0_discounted, Cond.instanceMethod yX0_discounted, Cond.selects RX0 yX0_discounted yX0_discounted, Cond.code yX0_discounted cX0_discounted 6 (some .int), Cond.fieldLink RX0 22 "DeliveryBasket$Bond" "periods" "I", Cond.fieldLink RX0 9 "DeliveryBasket$Bond" "flows" "[I", Cond.constantLong RX0 58 (10000), Cond.methodLink RX2 223 yX1_layNow, Cond.instanceMethod yX1_layNow, Cond.selects RX1 yX1_layNow yX1_layNow, Cond.code yX1_layNow cX1_layNow 6 none, Cond.fieldLink RX1 43 "DeliveryBasket$Lattice" "invoices" "[J", Cond.fieldLink RX1 39 "DeliveryBasket$Lattice" "levelPick" "[I"]
def wsX2_path_r4 : List Cond := [Cond.fieldLink RX1 35 "DeliveryBasket$Lattice" "levelNow" "[J", Cond.static yX2_isIn, Cond.code yX2_isIn cX2_isIn 2 (some .boolean), Cond.methodLink RX1 85 yX0_invoiceBy, Cond.instanceMethod yX0_invoiceBy, Cond.selects RX0 yX0_invoiceBy yX0_invoiceBy, Cond.code yX0_invoiceBy cX0_invoiceBy 3 (some .long), Cond.fieldLink RX0 67 "DeliveryBasket$Bond" "factor" "I", Cond.methodLink RX1 89 yX1_bestOn, Cond.instanceMethod yX1_bestOn, Cond.selects RX1 yX1_bestOn yX1_bestOn, Cond.code yX1_bestOn cX1_bestOn 9 (some .int), Cond.methodLink RX2 227 yX1_rollBack, Cond.instanceMethod yX1_rollBack, Cond.selects RX1 yX1_rollBack yX1_rollBack, Cond.code yX1_rollBack cX1_rollBack 7 (some .long), Cond.fieldLink RX1 24 "DeliveryBasket$Lattice" "values" "[[J", Cond.constantLong RX1 96 (2), Cond.fieldLink RX1 52 "DeliveryBasket$Lattice" "carry" "I", Cond.fieldLink RX1 29 "DeliveryBasket$Lattice" "acts" "[[I", Cond.methodLink RX1 92 yX1_deliverAt, Cond.instanceMethod yX1_deliverAt, Cond.selects RX1 yX1_deliverAt yX1_deliverAt, Cond.code yX1_deliverAt cX1_deliverAt 4 none]
def wsX2_path_r5 : List Cond := [Cond.methodLink RX1 102 yX1_level, Cond.instanceMethod yX1_level, Cond.selects RX1 yX1_level yX1_level, Cond.code yX1_level cX1_level 3 (some .int), Cond.methodLink RX1 98 yJ9_floorDiv_f86c9, Cond.static yJ9_floorDiv_f86c9, Cond.initialized RJ9, Cond.code yJ9_floorDiv_f86c9 cJ9_floorDiv_f86c9 6 (some .long)]
def wsX2_path : List Cond := .code yX2_path cX2_path 7 (some .int) :: ((wsX2_path_r1 ++ (wsX2_path_r2 ++ (wsX2_path_r3 ++ (wsX2_path_r4 ++ wsX2_path_r5)))) ++ wsX20 ++ wsX10 ++ wsX00)
def wsX2_often_r1 : List Cond := [Cond.fieldLink RX2 28 "DeliveryBasket" "lattice" "LDeliveryBasket$Lattice;", Cond.methodLink RX2 122 yX2_eligibleBits, Cond.instanceMethod yX2_eligibleBits, Cond.selects RX2 yX2_eligibleBits yX2_eligibleBits, Cond.initialized RX2, Cond.code yX2_eligibleBits cX2_eligibleBits 3 (some .int), Cond.fieldLink RX2 44 "DeliveryBasket" "size" "I", Cond.methodLink RX2 107 yX2_isEligible, Cond.instanceMethod yX2_isEligible, Cond.selects RX2 yX2_isEligible yX2_isEligible, Cond.code yX2_isEligible cX2_isEligible 3 (some .boolean), Cond.fieldLink RX2 11 "DeliveryBasket" "bonds" "[LDeliveryBasket$Bond;", Cond.fieldLink RX2 101 "DeliveryBasket$Bond" "barred" "I", Cond.fieldLink RX2 89 "DeliveryBasket$Bond" "periods" "I", Cond.fieldLink RX2 19 "DeliveryBasket" "least" "I", Cond.fieldLink RX2 22 "DeliveryBasket" "most" "I", Cond.fieldLink RX2 104 "DeliveryBasket$Bond" "factor" "I", Cond.methodLink RX2 47 yX2_within, Cond.static yX2_within, Cond.code yX2_within cX2_within 3 (some .boolean), Cond.methodLink RX2 212 yX1_hasDay, Cond.instanceMethod yX1_hasDay, Cond.selects RX1 yX1_hasDay yX1_hasDay, Cond.initialized RX1]
def wsX2_often_r2 : List Cond := [Cond.code yX1_hasDay cX1_hasDay 2 (some .boolean), Cond.fieldLink RX1 49 "DeliveryBasket$Lattice" "days" "I", Cond.methodLink RX2 200 yX2_valueBy, Cond.instanceMethod yX2_valueBy, Cond.selects RX2 yX2_valueBy yX2_valueBy, Cond.code yX2_valueBy cX2_valueBy 2 (some .long), Cond.fieldLink RX2 141 "DeliveryBasket$Lattice" "agreed" "I", Cond.fieldLink RX2 129 "DeliveryBasket$Lattice" "days" "I", Cond.methodLink RX2 220 yX1_layPrices, Cond.instanceMethod yX1_layPrices, Cond.selects RX1 yX1_layPrices yX1_layPrices, Cond.code yX1_layPrices cX1_layPrices 6 none, Cond.fieldLink RX1 32 "DeliveryBasket$Lattice" "levelPrices" "[[I", Cond.methodLink RX1 72 yX1_rateAt, Cond.instanceMethod yX1_rateAt, Cond.selects RX1 yX1_rateAt yX1_rateAt, Cond.code yX1_rateAt cX1_rateAt 2 (some .int), Cond.fieldLink RX1 9 "DeliveryBasket$Lattice" "start" "I", Cond.fieldLink RX1 15 "DeliveryBasket$Lattice" "jump" "I", Cond.methodLink RX1 63 Lib.Math.min.name, Cond.static Lib.Math.min.name, Cond.initialized "java/lang/Math", Cond.code Lib.Math.min.name Lib.Math.min.code 2 (some .int), Cond.methodLink RX1 69 Lib.Math.max.name]
def wsX2_often_r3 : List Cond := [Cond.static Lib.Math.max.name, Cond.code Lib.Math.max.name Lib.Math.max.code 2 (some .int), Cond.methodLink RX1 76 yX0_priceAt, Cond.instanceMethod yX0_priceAt, Cond.selects RX0 yX0_priceAt yX0_priceAt, Cond.initialized RX0, Cond.code yX0_priceAt cX0_priceAt 2 (some .int), Cond.fieldLink RX0 28 "DeliveryBasket$Bond" "spread" "I", Cond.methodLink RX0 70 Lib.Math.max.name, Cond.methodLink RX0 64 yX0_worthAt, Cond.instanceMethod yX0_worthAt, Cond.selects RX0 yX0_worthAt yX0_worthAt, Cond.code yX0_worthAt cX0_worthAt 2 (some .int), Cond.fieldLink RX0 40 "DeliveryBasket$Bond" "worths" "[I", Cond.methodLink RX0 75 yX0_discounted, Cond.instanceMethod yX0_discounted, Cond.selects RX0 yX0_discounted yX0_discounted, Cond.code yX0_discounted cX0_discounted 6 (some .int), Cond.fieldLink RX0 22 "DeliveryBasket$Bond" "periods" "I", Cond.fieldLink RX0 9 "DeliveryBasket$Bond" "flows" "[I", Cond.constantLong RX0 58 (10000), Cond.methodLink RX2 223 yX1_layNow, Cond.instanceMethod yX1_layNow, Cond.selects RX1 yX1_layNow yX1_layNow]
def wsX2_often_r4 : List Cond := [Cond.code yX1_layNow cX1_layNow 6 none, Cond.fieldLink RX1 43 "DeliveryBasket$Lattice" "invoices" "[J", Cond.fieldLink RX1 39 "DeliveryBasket$Lattice" "levelPick" "[I", Cond.fieldLink RX1 35 "DeliveryBasket$Lattice" "levelNow" "[J", Cond.static yX2_isIn, Cond.code yX2_isIn cX2_isIn 2 (some .boolean), Cond.methodLink RX1 85 yX0_invoiceBy, Cond.instanceMethod yX0_invoiceBy, Cond.selects RX0 yX0_invoiceBy yX0_invoiceBy, Cond.code yX0_invoiceBy cX0_invoiceBy 3 (some .long), Cond.fieldLink RX0 67 "DeliveryBasket$Bond" "factor" "I", Cond.methodLink RX1 89 yX1_bestOn, Cond.instanceMethod yX1_bestOn, Cond.selects RX1 yX1_bestOn yX1_bestOn, Cond.code yX1_bestOn cX1_bestOn 9 (some .int), Cond.methodLink RX2 227 yX1_rollBack, Cond.instanceMethod yX1_rollBack, Cond.selects RX1 yX1_rollBack yX1_rollBack, Cond.code yX1_rollBack cX1_rollBack 7 (some .long), Cond.fieldLink RX1 24 "DeliveryBasket$Lattice" "values" "[[J", Cond.constantLong RX1 96 (2), Cond.fieldLink RX1 52 "DeliveryBasket$Lattice" "carry" "I", Cond.fieldLink RX1 29 "DeliveryBasket$Lattice" "acts" "[[I", Cond.methodLink RX1 92 yX1_deliverAt]
def wsX2_often_r5 : List Cond := [Cond.instanceMethod yX1_deliverAt, Cond.selects RX1 yX1_deliverAt yX1_deliverAt, Cond.code yX1_deliverAt cX1_deliverAt 4 none, Cond.methodLink RX1 102 yX1_level, Cond.instanceMethod yX1_level, Cond.selects RX1 yX1_level yX1_level, Cond.code yX1_level cX1_level 3 (some .int), Cond.methodLink RX1 98 yJ9_floorDiv_f86c9, Cond.static yJ9_floorDiv_f86c9, Cond.initialized RJ9, Cond.code yJ9_floorDiv_f86c9 cJ9_floorDiv_f86c9 6 (some .long), Cond.methodLink RX2 215 yX1_pathsThatEndOn, Cond.instanceMethod yX1_pathsThatEndOn, Cond.selects RX1 yX1_pathsThatEndOn yX1_pathsThatEndOn, Cond.code yX1_pathsThatEndOn cX1_pathsThatEndOn 4 (some .int), Cond.fieldLink RX1 46 "DeliveryBasket$Lattice" "ways" "[I", Cond.methodLink RX1 105 yJ7_fill_53178, Cond.static yJ7_fill_53178, Cond.initialized RJ7, Cond.code yJ7_fill_53178 cJ7_fill_53178 4 none]
def wsX2_often : List Cond := .code yX2_often cX2_often 3 (some .int) :: ((wsX2_often_r1 ++ (wsX2_often_r2 ++ (wsX2_often_r3 ++ (wsX2_often_r4 ++ wsX2_often_r5)))) ++ wsX20 ++ wsX00 ++ wsX10)
def wsX2_fixed_r1 : List Cond := [Cond.classLink RX2 76 "java/util/NoSuchElementException", Cond.initialized "java/util/NoSuchElementException", Cond.fieldLink RX2 28 "DeliveryBasket" "lattice" "LDeliveryBasket$Lattice;", Cond.fieldLink RX2 11 "DeliveryBasket" "bonds" "[LDeliveryBasket$Bond;", Cond.fieldLink RX2 44 "DeliveryBasket" "size" "I", Cond.fieldLink RX2 141 "DeliveryBasket$Lattice" "agreed" "I", Cond.methodLink RX2 122 yX2_eligibleBits, Cond.instanceMethod yX2_eligibleBits, Cond.selects RX2 yX2_eligibleBits yX2_eligibleBits, Cond.initialized RX2, Cond.code yX2_eligibleBits cX2_eligibleBits 3 (some .int), Cond.methodLink RX2 107 yX2_isEligible, Cond.instanceMethod yX2_isEligible, Cond.selects RX2 yX2_isEligible yX2_isEligible, Cond.code yX2_isEligible cX2_isEligible 3 (some .boolean), Cond.fieldLink RX2 101 "DeliveryBasket$Bond" "barred" "I", Cond.fieldLink RX2 89 "DeliveryBasket$Bond" "periods" "I", Cond.fieldLink RX2 19 "DeliveryBasket" "least" "I", Cond.fieldLink RX2 22 "DeliveryBasket" "most" "I", Cond.fieldLink RX2 104 "DeliveryBasket$Bond" "factor" "I", Cond.methodLink RX2 47 yX2_within, Cond.static yX2_within, Cond.code yX2_within cX2_within 3 (some .boolean), Cond.methodLink RX2 212 yX1_hasDay]
def wsX2_fixed_r2 : List Cond := [Cond.instanceMethod yX1_hasDay, Cond.selects RX1 yX1_hasDay yX1_hasDay, Cond.initialized RX1, Cond.code yX1_hasDay cX1_hasDay 2 (some .boolean), Cond.fieldLink RX1 49 "DeliveryBasket$Lattice" "days" "I", Cond.methodLink RX2 220 yX1_layPrices, Cond.instanceMethod yX1_layPrices, Cond.selects RX1 yX1_layPrices yX1_layPrices, Cond.code yX1_layPrices cX1_layPrices 6 none, Cond.fieldLink RX1 32 "DeliveryBasket$Lattice" "levelPrices" "[[I", Cond.methodLink RX1 72 yX1_rateAt, Cond.instanceMethod yX1_rateAt, Cond.selects RX1 yX1_rateAt yX1_rateAt, Cond.code yX1_rateAt cX1_rateAt 2 (some .int), Cond.fieldLink RX1 9 "DeliveryBasket$Lattice" "start" "I", Cond.fieldLink RX1 15 "DeliveryBasket$Lattice" "jump" "I", Cond.methodLink RX1 63 Lib.Math.min.name, Cond.static Lib.Math.min.name, Cond.initialized "java/lang/Math", Cond.code Lib.Math.min.name Lib.Math.min.code 2 (some .int), Cond.methodLink RX1 69 Lib.Math.max.name, Cond.static Lib.Math.max.name, Cond.code Lib.Math.max.name Lib.Math.max.code 2 (some .int), Cond.methodLink RX1 76 yX0_priceAt]
def wsX2_fixed_r3 : List Cond := [Cond.instanceMethod yX0_priceAt, Cond.selects RX0 yX0_priceAt yX0_priceAt, Cond.initialized RX0, Cond.code yX0_priceAt cX0_priceAt 2 (some .int), Cond.fieldLink RX0 28 "DeliveryBasket$Bond" "spread" "I", Cond.methodLink RX0 70 Lib.Math.max.name, Cond.methodLink RX0 64 yX0_worthAt, Cond.instanceMethod yX0_worthAt, Cond.selects RX0 yX0_worthAt yX0_worthAt, Cond.code yX0_worthAt cX0_worthAt 2 (some .int), Cond.fieldLink RX0 40 "DeliveryBasket$Bond" "worths" "[I", Cond.methodLink RX0 75 yX0_discounted, Cond.instanceMethod yX0_discounted, Cond.selects RX0 yX0_discounted yX0_discounted, Cond.code yX0_discounted cX0_discounted 6 (some .int), Cond.fieldLink RX0 22 "DeliveryBasket$Bond" "periods" "I", Cond.fieldLink RX0 9 "DeliveryBasket$Bond" "flows" "[I", Cond.constantLong RX0 58 (10000), Cond.methodLink RX2 223 yX1_layNow, Cond.instanceMethod yX1_layNow, Cond.selects RX1 yX1_layNow yX1_layNow, Cond.code yX1_layNow cX1_layNow 6 none, Cond.fieldLink RX1 43 "DeliveryBasket$Lattice" "invoices" "[J", Cond.fieldLink RX1 39 "DeliveryBasket$Lattice" "levelPick" "[I"]
def wsX2_fixed_r4 : List Cond := [Cond.fieldLink RX1 35 "DeliveryBasket$Lattice" "levelNow" "[J", Cond.static yX2_isIn, Cond.code yX2_isIn cX2_isIn 2 (some .boolean), Cond.methodLink RX1 85 yX0_invoiceBy, Cond.instanceMethod yX0_invoiceBy, Cond.selects RX0 yX0_invoiceBy yX0_invoiceBy, Cond.code yX0_invoiceBy cX0_invoiceBy 3 (some .long), Cond.fieldLink RX0 67 "DeliveryBasket$Bond" "factor" "I", Cond.methodLink RX1 89 yX1_bestOn, Cond.instanceMethod yX1_bestOn, Cond.selects RX1 yX1_bestOn yX1_bestOn, Cond.code yX1_bestOn cX1_bestOn 9 (some .int), Cond.methodLink RX2 227 yX1_rollBack, Cond.instanceMethod yX1_rollBack, Cond.selects RX1 yX1_rollBack yX1_rollBack, Cond.code yX1_rollBack cX1_rollBack 7 (some .long), Cond.fieldLink RX1 24 "DeliveryBasket$Lattice" "values" "[[J", Cond.constantLong RX1 96 (2), Cond.fieldLink RX1 52 "DeliveryBasket$Lattice" "carry" "I", Cond.fieldLink RX1 29 "DeliveryBasket$Lattice" "acts" "[[I", Cond.methodLink RX1 92 yX1_deliverAt, Cond.instanceMethod yX1_deliverAt, Cond.selects RX1 yX1_deliverAt yX1_deliverAt, Cond.code yX1_deliverAt cX1_deliverAt 4 none]
def wsX2_fixed_r5 : List Cond := [Cond.methodLink RX1 102 yX1_level, Cond.instanceMethod yX1_level, Cond.selects RX1 yX1_level yX1_level, Cond.code yX1_level cX1_level 3 (some .int), Cond.methodLink RX1 98 yJ9_floorDiv_f86c9, Cond.static yJ9_floorDiv_f86c9, Cond.initialized RJ9, Cond.code yJ9_floorDiv_f86c9 cJ9_floorDiv_f86c9 6 (some .long)]
def wsX2_fixed : List Cond := .code yX2_fixed cX2_fixed 3 (some .long) :: ((wsX2_fixed_r1 ++ (wsX2_fixed_r2 ++ (wsX2_fixed_r3 ++ (wsX2_fixed_r4 ++ wsX2_fixed_r5)))) ++ wsX20 ++ wsX10 ++ wsX00 ++ (vx_atS RX2 80 "java/util/NoSuchElementException" ["java/lang/RuntimeException", "java/lang/Exception"]).filter goodWord)
def wsX2_only_r1 : List Cond := [Cond.classLink RX2 76 "java/util/NoSuchElementException", Cond.initialized "java/util/NoSuchElementException", Cond.methodLink RX2 63 yX2_has, Cond.instanceMethod yX2_has, Cond.selects RX2 yX2_has yX2_has, Cond.initialized RX2, Cond.code yX2_has cX2_has 2 (some .boolean), Cond.fieldLink RX2 44 "DeliveryBasket" "size" "I", Cond.methodLink RX2 47 yX2_within, Cond.static yX2_within, Cond.code yX2_within cX2_within 3 (some .boolean), Cond.methodLink RX2 107 yX2_isEligible, Cond.instanceMethod yX2_isEligible, Cond.selects RX2 yX2_isEligible yX2_isEligible, Cond.code yX2_isEligible cX2_isEligible 3 (some .boolean), Cond.fieldLink RX2 11 "DeliveryBasket" "bonds" "[LDeliveryBasket$Bond;", Cond.fieldLink RX2 101 "DeliveryBasket$Bond" "barred" "I", Cond.fieldLink RX2 89 "DeliveryBasket$Bond" "periods" "I", Cond.fieldLink RX2 19 "DeliveryBasket" "least" "I", Cond.fieldLink RX2 22 "DeliveryBasket" "most" "I", Cond.fieldLink RX2 104 "DeliveryBasket$Bond" "factor" "I", Cond.methodLink RX2 200 yX2_valueBy, Cond.instanceMethod yX2_valueBy, Cond.selects RX2 yX2_valueBy yX2_valueBy]
def wsX2_only_r2 : List Cond := [Cond.code yX2_valueBy cX2_valueBy 2 (some .long), Cond.fieldLink RX2 28 "DeliveryBasket" "lattice" "LDeliveryBasket$Lattice;", Cond.fieldLink RX2 141 "DeliveryBasket$Lattice" "agreed" "I", Cond.fieldLink RX2 129 "DeliveryBasket$Lattice" "days" "I", Cond.methodLink RX2 220 yX1_layPrices, Cond.instanceMethod yX1_layPrices, Cond.selects RX1 yX1_layPrices yX1_layPrices, Cond.initialized RX1, Cond.code yX1_layPrices cX1_layPrices 6 none, Cond.fieldLink RX1 49 "DeliveryBasket$Lattice" "days" "I", Cond.fieldLink RX1 32 "DeliveryBasket$Lattice" "levelPrices" "[[I", Cond.methodLink RX1 72 yX1_rateAt, Cond.instanceMethod yX1_rateAt, Cond.selects RX1 yX1_rateAt yX1_rateAt, Cond.code yX1_rateAt cX1_rateAt 2 (some .int), Cond.fieldLink RX1 9 "DeliveryBasket$Lattice" "start" "I", Cond.fieldLink RX1 15 "DeliveryBasket$Lattice" "jump" "I", Cond.methodLink RX1 63 Lib.Math.min.name, Cond.static Lib.Math.min.name, Cond.initialized "java/lang/Math", Cond.code Lib.Math.min.name Lib.Math.min.code 2 (some .int), Cond.methodLink RX1 69 Lib.Math.max.name, Cond.static Lib.Math.max.name, Cond.code Lib.Math.max.name Lib.Math.max.code 2 (some .int)]
def wsX2_only_r3 : List Cond := [Cond.methodLink RX1 76 yX0_priceAt, Cond.instanceMethod yX0_priceAt, Cond.selects RX0 yX0_priceAt yX0_priceAt, Cond.initialized RX0, Cond.code yX0_priceAt cX0_priceAt 2 (some .int), Cond.fieldLink RX0 28 "DeliveryBasket$Bond" "spread" "I", Cond.methodLink RX0 70 Lib.Math.max.name, Cond.methodLink RX0 64 yX0_worthAt, Cond.instanceMethod yX0_worthAt, Cond.selects RX0 yX0_worthAt yX0_worthAt, Cond.code yX0_worthAt cX0_worthAt 2 (some .int), Cond.fieldLink RX0 40 "DeliveryBasket$Bond" "worths" "[I", Cond.methodLink RX0 75 yX0_discounted, Cond.instanceMethod yX0_discounted, Cond.selects RX0 yX0_discounted yX0_discounted, Cond.code yX0_discounted cX0_discounted 6 (some .int), Cond.fieldLink RX0 22 "DeliveryBasket$Bond" "periods" "I", Cond.fieldLink RX0 9 "DeliveryBasket$Bond" "flows" "[I", Cond.constantLong RX0 58 (10000), Cond.methodLink RX2 223 yX1_layNow, Cond.instanceMethod yX1_layNow, Cond.selects RX1 yX1_layNow yX1_layNow, Cond.code yX1_layNow cX1_layNow 6 none, Cond.fieldLink RX1 43 "DeliveryBasket$Lattice" "invoices" "[J"]
def wsX2_only_r4 : List Cond := [Cond.fieldLink RX1 39 "DeliveryBasket$Lattice" "levelPick" "[I", Cond.fieldLink RX1 35 "DeliveryBasket$Lattice" "levelNow" "[J", Cond.static yX2_isIn, Cond.code yX2_isIn cX2_isIn 2 (some .boolean), Cond.methodLink RX1 85 yX0_invoiceBy, Cond.instanceMethod yX0_invoiceBy, Cond.selects RX0 yX0_invoiceBy yX0_invoiceBy, Cond.code yX0_invoiceBy cX0_invoiceBy 3 (some .long), Cond.fieldLink RX0 67 "DeliveryBasket$Bond" "factor" "I", Cond.methodLink RX1 89 yX1_bestOn, Cond.instanceMethod yX1_bestOn, Cond.selects RX1 yX1_bestOn yX1_bestOn, Cond.code yX1_bestOn cX1_bestOn 9 (some .int), Cond.methodLink RX2 227 yX1_rollBack, Cond.instanceMethod yX1_rollBack, Cond.selects RX1 yX1_rollBack yX1_rollBack, Cond.code yX1_rollBack cX1_rollBack 7 (some .long), Cond.fieldLink RX1 24 "DeliveryBasket$Lattice" "values" "[[J", Cond.constantLong RX1 96 (2), Cond.fieldLink RX1 52 "DeliveryBasket$Lattice" "carry" "I", Cond.fieldLink RX1 29 "DeliveryBasket$Lattice" "acts" "[[I", Cond.methodLink RX1 92 yX1_deliverAt, Cond.instanceMethod yX1_deliverAt, Cond.selects RX1 yX1_deliverAt yX1_deliverAt]
def wsX2_only_r5 : List Cond := [Cond.code yX1_deliverAt cX1_deliverAt 4 none, Cond.methodLink RX1 102 yX1_level, Cond.instanceMethod yX1_level, Cond.selects RX1 yX1_level yX1_level, Cond.code yX1_level cX1_level 3 (some .int), Cond.methodLink RX1 98 yJ9_floorDiv_f86c9, Cond.static yJ9_floorDiv_f86c9, Cond.initialized RJ9, Cond.code yJ9_floorDiv_f86c9 cJ9_floorDiv_f86c9 6 (some .long)]
def wsX2_only : List Cond := .code yX2_only cX2_only 2 (some .long) :: ((wsX2_only_r1 ++ (wsX2_only_r2 ++ (wsX2_only_r3 ++ (wsX2_only_r4 ++ wsX2_only_r5)))) ++ wsX20 ++ wsX00 ++ wsX10 ++ (vx_atS RX2 80 "java/util/NoSuchElementException" ["java/lang/RuntimeException", "java/lang/Exception"]).filter goodWord)
def wsX2_without_r1 : List Cond := [Cond.classLink RX2 76 "java/util/NoSuchElementException", Cond.initialized "java/util/NoSuchElementException", Cond.methodLink RX2 63 yX2_has, Cond.instanceMethod yX2_has, Cond.selects RX2 yX2_has yX2_has, Cond.initialized RX2, Cond.code yX2_has cX2_has 2 (some .boolean), Cond.fieldLink RX2 44 "DeliveryBasket" "size" "I", Cond.methodLink RX2 47 yX2_within, Cond.static yX2_within, Cond.code yX2_within cX2_within 3 (some .boolean), Cond.methodLink RX2 107 yX2_isEligible, Cond.instanceMethod yX2_isEligible, Cond.selects RX2 yX2_isEligible yX2_isEligible, Cond.code yX2_isEligible cX2_isEligible 3 (some .boolean), Cond.fieldLink RX2 11 "DeliveryBasket" "bonds" "[LDeliveryBasket$Bond;", Cond.fieldLink RX2 101 "DeliveryBasket$Bond" "barred" "I", Cond.fieldLink RX2 89 "DeliveryBasket$Bond" "periods" "I", Cond.fieldLink RX2 19 "DeliveryBasket" "least" "I", Cond.fieldLink RX2 22 "DeliveryBasket" "most" "I", Cond.fieldLink RX2 104 "DeliveryBasket$Bond" "factor" "I", Cond.methodLink RX2 122 yX2_eligibleBits, Cond.instanceMethod yX2_eligibleBits, Cond.selects RX2 yX2_eligibleBits yX2_eligibleBits]
def wsX2_without_r2 : List Cond := [Cond.code yX2_eligibleBits cX2_eligibleBits 3 (some .int), Cond.methodLink RX2 200 yX2_valueBy, Cond.instanceMethod yX2_valueBy, Cond.selects RX2 yX2_valueBy yX2_valueBy, Cond.code yX2_valueBy cX2_valueBy 2 (some .long), Cond.fieldLink RX2 28 "DeliveryBasket" "lattice" "LDeliveryBasket$Lattice;", Cond.fieldLink RX2 141 "DeliveryBasket$Lattice" "agreed" "I", Cond.fieldLink RX2 129 "DeliveryBasket$Lattice" "days" "I", Cond.methodLink RX2 220 yX1_layPrices, Cond.instanceMethod yX1_layPrices, Cond.selects RX1 yX1_layPrices yX1_layPrices, Cond.initialized RX1, Cond.code yX1_layPrices cX1_layPrices 6 none, Cond.fieldLink RX1 49 "DeliveryBasket$Lattice" "days" "I", Cond.fieldLink RX1 32 "DeliveryBasket$Lattice" "levelPrices" "[[I", Cond.methodLink RX1 72 yX1_rateAt, Cond.instanceMethod yX1_rateAt, Cond.selects RX1 yX1_rateAt yX1_rateAt, Cond.code yX1_rateAt cX1_rateAt 2 (some .int), Cond.fieldLink RX1 9 "DeliveryBasket$Lattice" "start" "I", Cond.fieldLink RX1 15 "DeliveryBasket$Lattice" "jump" "I", Cond.methodLink RX1 63 Lib.Math.min.name, Cond.static Lib.Math.min.name, Cond.initialized "java/lang/Math"]
def wsX2_without_r3 : List Cond := [Cond.code Lib.Math.min.name Lib.Math.min.code 2 (some .int), Cond.methodLink RX1 69 Lib.Math.max.name, Cond.static Lib.Math.max.name, Cond.code Lib.Math.max.name Lib.Math.max.code 2 (some .int), Cond.methodLink RX1 76 yX0_priceAt, Cond.instanceMethod yX0_priceAt, Cond.selects RX0 yX0_priceAt yX0_priceAt, Cond.initialized RX0, Cond.code yX0_priceAt cX0_priceAt 2 (some .int), Cond.fieldLink RX0 28 "DeliveryBasket$Bond" "spread" "I", Cond.methodLink RX0 70 Lib.Math.max.name, Cond.methodLink RX0 64 yX0_worthAt, Cond.instanceMethod yX0_worthAt, Cond.selects RX0 yX0_worthAt yX0_worthAt, Cond.code yX0_worthAt cX0_worthAt 2 (some .int), Cond.fieldLink RX0 40 "DeliveryBasket$Bond" "worths" "[I", Cond.methodLink RX0 75 yX0_discounted, Cond.instanceMethod yX0_discounted, Cond.selects RX0 yX0_discounted yX0_discounted, Cond.code yX0_discounted cX0_discounted 6 (some .int), Cond.fieldLink RX0 22 "DeliveryBasket$Bond" "periods" "I", Cond.fieldLink RX0 9 "DeliveryBasket$Bond" "flows" "[I", Cond.constantLong RX0 58 (10000), Cond.methodLink RX2 223 yX1_layNow]
def wsX2_without_r4 : List Cond := [Cond.instanceMethod yX1_layNow, Cond.selects RX1 yX1_layNow yX1_layNow, Cond.code yX1_layNow cX1_layNow 6 none, Cond.fieldLink RX1 43 "DeliveryBasket$Lattice" "invoices" "[J", Cond.fieldLink RX1 39 "DeliveryBasket$Lattice" "levelPick" "[I", Cond.fieldLink RX1 35 "DeliveryBasket$Lattice" "levelNow" "[J", Cond.static yX2_isIn, Cond.code yX2_isIn cX2_isIn 2 (some .boolean), Cond.methodLink RX1 85 yX0_invoiceBy, Cond.instanceMethod yX0_invoiceBy, Cond.selects RX0 yX0_invoiceBy yX0_invoiceBy, Cond.code yX0_invoiceBy cX0_invoiceBy 3 (some .long), Cond.fieldLink RX0 67 "DeliveryBasket$Bond" "factor" "I", Cond.methodLink RX1 89 yX1_bestOn, Cond.instanceMethod yX1_bestOn, Cond.selects RX1 yX1_bestOn yX1_bestOn, Cond.code yX1_bestOn cX1_bestOn 9 (some .int), Cond.methodLink RX2 227 yX1_rollBack, Cond.instanceMethod yX1_rollBack, Cond.selects RX1 yX1_rollBack yX1_rollBack, Cond.code yX1_rollBack cX1_rollBack 7 (some .long), Cond.fieldLink RX1 24 "DeliveryBasket$Lattice" "values" "[[J", Cond.constantLong RX1 96 (2), Cond.fieldLink RX1 52 "DeliveryBasket$Lattice" "carry" "I"]
def wsX2_without_r5 : List Cond := [Cond.fieldLink RX1 29 "DeliveryBasket$Lattice" "acts" "[[I", Cond.methodLink RX1 92 yX1_deliverAt, Cond.instanceMethod yX1_deliverAt, Cond.selects RX1 yX1_deliverAt yX1_deliverAt, Cond.code yX1_deliverAt cX1_deliverAt 4 none, Cond.methodLink RX1 102 yX1_level, Cond.instanceMethod yX1_level, Cond.selects RX1 yX1_level yX1_level, Cond.code yX1_level cX1_level 3 (some .int), Cond.methodLink RX1 98 yJ9_floorDiv_f86c9, Cond.static yJ9_floorDiv_f86c9, Cond.initialized RJ9, Cond.code yJ9_floorDiv_f86c9 cJ9_floorDiv_f86c9 6 (some .long)]
def wsX2_without : List Cond := .code yX2_without cX2_without 4 (some .long) :: ((wsX2_without_r1 ++ (wsX2_without_r2 ++ (wsX2_without_r3 ++ (wsX2_without_r4 ++ wsX2_without_r5)))) ++ wsX20 ++ wsX00 ++ wsX10 ++ (vx_atS RX2 80 "java/util/NoSuchElementException" ["java/lang/RuntimeException", "java/lang/Exception"]).filter goodWord)
def wsX2_fair_r1 : List Cond := [Cond.fieldLink RX2 28 "DeliveryBasket" "lattice" "LDeliveryBasket$Lattice;", Cond.fieldLink RX2 11 "DeliveryBasket" "bonds" "[LDeliveryBasket$Bond;", Cond.fieldLink RX2 44 "DeliveryBasket" "size" "I", Cond.constant RX2 235 (536870912), Cond.constant RX2 184 (999999999), Cond.fieldLink RX2 129 "DeliveryBasket$Lattice" "days" "I", Cond.methodLink RX2 122 yX2_eligibleBits, Cond.instanceMethod yX2_eligibleBits, Cond.selects RX2 yX2_eligibleBits yX2_eligibleBits, Cond.initialized RX2, Cond.code yX2_eligibleBits cX2_eligibleBits 3 (some .int), Cond.methodLink RX2 107 yX2_isEligible, Cond.instanceMethod yX2_isEligible, Cond.selects RX2 yX2_isEligible yX2_isEligible, Cond.code yX2_isEligible cX2_isEligible 3 (some .boolean), Cond.fieldLink RX2 101 "DeliveryBasket$Bond" "barred" "I", Cond.fieldLink RX2 89 "DeliveryBasket$Bond" "periods" "I", Cond.fieldLink RX2 19 "DeliveryBasket" "least" "I", Cond.fieldLink RX2 22 "DeliveryBasket" "most" "I", Cond.fieldLink RX2 104 "DeliveryBasket$Bond" "factor" "I", Cond.methodLink RX2 47 yX2_within, Cond.static yX2_within, Cond.code yX2_within cX2_within 3 (some .boolean), Cond.methodLink RX2 220 yX1_layPrices]
def wsX2_fair_r2 : List Cond := [Cond.instanceMethod yX1_layPrices, Cond.selects RX1 yX1_layPrices yX1_layPrices, Cond.initialized RX1, Cond.code yX1_layPrices cX1_layPrices 6 none, Cond.fieldLink RX1 49 "DeliveryBasket$Lattice" "days" "I", Cond.fieldLink RX1 32 "DeliveryBasket$Lattice" "levelPrices" "[[I", Cond.methodLink RX1 72 yX1_rateAt, Cond.instanceMethod yX1_rateAt, Cond.selects RX1 yX1_rateAt yX1_rateAt, Cond.code yX1_rateAt cX1_rateAt 2 (some .int), Cond.fieldLink RX1 9 "DeliveryBasket$Lattice" "start" "I", Cond.fieldLink RX1 15 "DeliveryBasket$Lattice" "jump" "I", Cond.methodLink RX1 63 Lib.Math.min.name, Cond.static Lib.Math.min.name, Cond.initialized "java/lang/Math", Cond.code Lib.Math.min.name Lib.Math.min.code 2 (some .int), Cond.methodLink RX1 69 Lib.Math.max.name, Cond.static Lib.Math.max.name, Cond.code Lib.Math.max.name Lib.Math.max.code 2 (some .int), Cond.methodLink RX1 76 yX0_priceAt, Cond.instanceMethod yX0_priceAt, Cond.selects RX0 yX0_priceAt yX0_priceAt, Cond.initialized RX0, Cond.code yX0_priceAt cX0_priceAt 2 (some .int)]
def wsX2_fair_r3 : List Cond := [Cond.fieldLink RX0 28 "DeliveryBasket$Bond" "spread" "I", Cond.methodLink RX0 70 Lib.Math.max.name, Cond.methodLink RX0 64 yX0_worthAt, Cond.instanceMethod yX0_worthAt, Cond.selects RX0 yX0_worthAt yX0_worthAt, Cond.code yX0_worthAt cX0_worthAt 2 (some .int), Cond.fieldLink RX0 40 "DeliveryBasket$Bond" "worths" "[I", Cond.methodLink RX0 75 yX0_discounted, Cond.instanceMethod yX0_discounted, Cond.selects RX0 yX0_discounted yX0_discounted, Cond.code yX0_discounted cX0_discounted 6 (some .int), Cond.fieldLink RX0 22 "DeliveryBasket$Bond" "periods" "I", Cond.fieldLink RX0 9 "DeliveryBasket$Bond" "flows" "[I", Cond.constantLong RX0 58 (10000), Cond.methodLink RX2 223 yX1_layNow, Cond.instanceMethod yX1_layNow, Cond.selects RX1 yX1_layNow yX1_layNow, Cond.code yX1_layNow cX1_layNow 6 none, Cond.fieldLink RX1 43 "DeliveryBasket$Lattice" "invoices" "[J", Cond.fieldLink RX1 39 "DeliveryBasket$Lattice" "levelPick" "[I", Cond.fieldLink RX1 35 "DeliveryBasket$Lattice" "levelNow" "[J", Cond.static yX2_isIn, Cond.code yX2_isIn cX2_isIn 2 (some .boolean), Cond.methodLink RX1 85 yX0_invoiceBy]
def wsX2_fair_r4 : List Cond := [Cond.instanceMethod yX0_invoiceBy, Cond.selects RX0 yX0_invoiceBy yX0_invoiceBy, Cond.code yX0_invoiceBy cX0_invoiceBy 3 (some .long), Cond.fieldLink RX0 67 "DeliveryBasket$Bond" "factor" "I", Cond.methodLink RX1 89 yX1_bestOn, Cond.instanceMethod yX1_bestOn, Cond.selects RX1 yX1_bestOn yX1_bestOn, Cond.code yX1_bestOn cX1_bestOn 9 (some .int), Cond.methodLink RX2 227 yX1_rollBack, Cond.instanceMethod yX1_rollBack, Cond.selects RX1 yX1_rollBack yX1_rollBack, Cond.code yX1_rollBack cX1_rollBack 7 (some .long), Cond.fieldLink RX1 24 "DeliveryBasket$Lattice" "values" "[[J", Cond.constantLong RX1 96 (2), Cond.fieldLink RX1 52 "DeliveryBasket$Lattice" "carry" "I", Cond.fieldLink RX1 29 "DeliveryBasket$Lattice" "acts" "[[I", Cond.methodLink RX1 92 yX1_deliverAt, Cond.instanceMethod yX1_deliverAt, Cond.selects RX1 yX1_deliverAt yX1_deliverAt, Cond.code yX1_deliverAt cX1_deliverAt 4 none, Cond.methodLink RX1 102 yX1_level, Cond.instanceMethod yX1_level, Cond.selects RX1 yX1_level yX1_level, Cond.code yX1_level cX1_level 3 (some .int)]
def wsX2_fair_r5 : List Cond := [Cond.methodLink RX1 98 yJ9_floorDiv_f86c9, Cond.static yJ9_floorDiv_f86c9, Cond.initialized RJ9, Cond.code yJ9_floorDiv_f86c9 cJ9_floorDiv_f86c9 6 (some .long)]
def wsX2_fair : List Cond := .code yX2_fair cX2_fair 4 (some .int) :: ((wsX2_fair_r1 ++ (wsX2_fair_r2 ++ (wsX2_fair_r3 ++ (wsX2_fair_r4 ++ wsX2_fair_r5)))) ++ wsX20 ++ wsX10 ++ wsX00)
def wsX3_init : List Cond := .code yX3_init cX3_init 1 none :: ([.methodLink RX3 1 objectInit, .instanceMethod objectInit, .code objectInit ⟨#[0xb1]⟩ 1 none, .arrayClass .int, .fieldLink RX3 7 "DeliveryBasketModel" "bond" "[I", .fieldLink RX3 13 "DeliveryBasketModel" "notional" "I", .fieldLink RX3 17 "DeliveryBasketModel" "least" "I", .fieldLink RX3 20 "DeliveryBasketModel" "most" "I", .fieldLink RX3 23 "DeliveryBasketModel" "start" "I", .fieldLink RX3 26 "DeliveryBasketModel" "jump" "I", .constant RX3 29 (100000000), .fieldLink RX3 30 "DeliveryBasketModel" "agreed" "I", .fieldLink RX3 33 "DeliveryBasketModel" "alone" "I", .fieldLink RX3 36 "DeliveryBasketModel" "but" "I", .fieldLink RX3 39 "DeliveryBasketModel" "given" "[I", .arrayClass .long, .fieldLink RX3 42 "DeliveryBasketModel" "costs" "[J", .fieldLink RX3 46 "DeliveryBasketModel" "value" "[J", .fieldLink RX3 49 "DeliveryBasketModel" "nows" "[J", .fieldLink RX3 52 "DeliveryBasketModel" "waits" "[J", .fieldLink RX3 55 "DeliveryBasketModel" "bonds" "[I", .fieldLink RX3 58 "DeliveryBasketModel" "ways" "[I"] ++ wsX30)
def wsX3_thrown : List Cond := .code yX3_thrown cX3_thrown 1 (some .int) :: ([.fieldLink RX3 61 "DeliveryBasketModel" "thrown" "I"] ++ wsX30)
def wsX3_isIn : List Cond := .code yX3_isIn cX3_isIn 6 (some .boolean) :: ([])
def wsX3_down : List Cond := .code yX3_down cX3_down 6 (some .long) :: ([])
def wsX3_refuse : List Cond := .code yX3_refuse cX3_refuse 1 (some .int) :: ([.fieldLink RX3 61 "DeliveryBasketModel" "thrown" "I"] ++ wsX30)
def wsX3_isBond : List Cond := .code yX3_isBond cX3_isBond 2 (some .boolean) :: ([.fieldLink RX3 64 "DeliveryBasketModel" "many" "I", .methodLink RX3 67 yX3_isIn, .static yX3_isIn, .initialized RX3, .code yX3_isIn cX3_isIn 6 (some .boolean)] ++ wsX30)
def wsX3_of1 : List Cond := .code yX3_of1 cX3_of1 3 (some .int) :: ([.fieldLink RX3 7 "DeliveryBasketModel" "bond" "[I"] ++ wsX30)
def wsX3_isGood : List Cond := .code yX3_isGood cX3_isGood 5 (some .boolean) :: ([.constantLong RX3 71 (3), .constantLong RX3 73 (2000), .constantLong RX3 75 (40), .constantLong RX3 77 (-200), .constantLong RX3 79 (200), .constantLong RX3 81 (100), .methodLink RX3 67 yX3_isIn, .static yX3_isIn, .initialized RX3, .code yX3_isIn cX3_isIn 6 (some .boolean)])
def wsX3_bond : List Cond := .code yX3_bond cX3_bond 7 (some .int) :: ([.fieldLink RX3 61 "DeliveryBasketModel" "thrown" "I", .fieldLink RX3 64 "DeliveryBasketModel" "many" "I", .fieldLink RX3 7 "DeliveryBasketModel" "bond" "[I", .methodLink RX3 83 yX3_isGood, .static yX3_isGood, .initialized RX3, .code yX3_isGood cX3_isGood 5 (some .boolean), .constantLong RX3 71 (3), .constantLong RX3 73 (2000), .constantLong RX3 75 (40), .constantLong RX3 77 (-200), .constantLong RX3 79 (200), .constantLong RX3 81 (100), .methodLink RX3 67 yX3_isIn, .static yX3_isIn, .code yX3_isIn cX3_isIn 6 (some .boolean)] ++ wsX30)
def wsX3_drop : List Cond := .code yX3_drop cX3_drop 3 (some .int) :: ([.fieldLink RX3 61 "DeliveryBasketModel" "thrown" "I", .fieldLink RX3 64 "DeliveryBasketModel" "many" "I", .fieldLink RX3 7 "DeliveryBasketModel" "bond" "[I", .methodLink RX3 87 yX3_isBond, .instanceMethod yX3_isBond, .selects RX3 yX3_isBond yX3_isBond, .initialized RX3, .code yX3_isBond cX3_isBond 2 (some .boolean), .methodLink RX3 67 yX3_isIn, .static yX3_isIn, .code yX3_isIn cX3_isIn 6 (some .boolean)] ++ wsX30)
def wsX3_alter : List Cond := .code yX3_alter cX3_alter 5 (some .boolean) :: ([.fieldLink RX3 61 "DeliveryBasketModel" "thrown" "I", .constantLong RX3 91 (2), .constantLong RX3 77 (-200), .constantLong RX3 79 (200), .constantLong RX3 93 (99), .fieldLink RX3 7 "DeliveryBasketModel" "bond" "[I", .methodLink RX3 87 yX3_isBond, .instanceMethod yX3_isBond, .selects RX3 yX3_isBond yX3_isBond, .initialized RX3, .code yX3_isBond cX3_isBond 2 (some .boolean), .fieldLink RX3 64 "DeliveryBasketModel" "many" "I", .methodLink RX3 67 yX3_isIn, .static yX3_isIn, .code yX3_isIn cX3_isIn 6 (some .boolean), .methodLink RX3 95 yX3_of1, .instanceMethod yX3_of1, .selects RX3 yX3_of1 yX3_of1, .code yX3_of1 cX3_of1 3 (some .int)] ++ wsX30)
def wsX3_owed : List Cond := .code yX3_owed cX3_owed 4 (some .long) :: ([.constantLong RX3 99 (100000000), .methodLink RX3 95 yX3_of1, .instanceMethod yX3_of1, .selects RX3 yX3_of1 yX3_of1, .initialized RX3, .code yX3_of1 cX3_of1 3 (some .int), .fieldLink RX3 7 "DeliveryBasketModel" "bond" "[I"] ++ wsX30)
def wsX3_back : List Cond := .code yX3_back cX3_back 3 (some .long) :: ([.constantLong RX3 99 (100000000), .methodLink RX3 95 yX3_of1, .instanceMethod yX3_of1, .selects RX3 yX3_of1 yX3_of1, .initialized RX3, .code yX3_of1 cX3_of1 3 (some .int), .fieldLink RX3 7 "DeliveryBasketModel" "bond" "[I", .methodLink RX3 101 yX3_owed, .instanceMethod yX3_owed, .selects RX3 yX3_owed yX3_owed, .code yX3_owed cX3_owed 4 (some .long)] ++ wsX30)
def wsX3_flow1 : List Cond := .code yX3_flow1 cX3_flow1 5 (some .long) :: ([.constantLong RX3 105 (10000), .methodLink RX3 95 yX3_of1, .instanceMethod yX3_of1, .selects RX3 yX3_of1 yX3_of1, .initialized RX3, .code yX3_of1 cX3_of1 3 (some .int), .fieldLink RX3 7 "DeliveryBasketModel" "bond" "[I", .methodLink RX3 101 yX3_owed, .instanceMethod yX3_owed, .selects RX3 yX3_owed yX3_owed, .code yX3_owed cX3_owed 4 (some .long), .constantLong RX3 99 (100000000), .methodLink RX3 107 yX3_back, .instanceMethod yX3_back, .selects RX3 yX3_back yX3_back, .code yX3_back cX3_back 3 (some .long)] ++ wsX30)
def wsX3_worth : List Cond := .code yX3_worth cX3_worth 6 (some .long) :: ([.constantLong RX3 105 (10000), .methodLink RX3 95 yX3_of1, .instanceMethod yX3_of1, .selects RX3 yX3_of1 yX3_of1, .initialized RX3, .code yX3_of1 cX3_of1 3 (some .int), .fieldLink RX3 7 "DeliveryBasketModel" "bond" "[I", .methodLink RX3 110 yX3_flow1, .instanceMethod yX3_flow1, .selects RX3 yX3_flow1 yX3_flow1, .code yX3_flow1 cX3_flow1 5 (some .long), .methodLink RX3 101 yX3_owed, .instanceMethod yX3_owed, .selects RX3 yX3_owed yX3_owed, .code yX3_owed cX3_owed 4 (some .long), .constantLong RX3 99 (100000000), .methodLink RX3 107 yX3_back, .instanceMethod yX3_back, .selects RX3 yX3_back yX3_back, .code yX3_back cX3_back 3 (some .long)] ++ wsX30)
def wsX3_price1 : List Cond := .code yX3_price1 cX3_price1 4 (some .long) :: ([.methodLink RX3 95 yX3_of1, .instanceMethod yX3_of1, .selects RX3 yX3_of1 yX3_of1, .initialized RX3, .code yX3_of1 cX3_of1 3 (some .int), .fieldLink RX3 7 "DeliveryBasketModel" "bond" "[I", .methodLink RX3 113 yX3_worth, .instanceMethod yX3_worth, .selects RX3 yX3_worth yX3_worth, .code yX3_worth cX3_worth 6 (some .long), .constantLong RX3 105 (10000), .methodLink RX3 110 yX3_flow1, .instanceMethod yX3_flow1, .selects RX3 yX3_flow1 yX3_flow1, .code yX3_flow1 cX3_flow1 5 (some .long), .methodLink RX3 101 yX3_owed, .instanceMethod yX3_owed, .selects RX3 yX3_owed yX3_owed, .code yX3_owed cX3_owed 4 (some .long), .constantLong RX3 99 (100000000), .methodLink RX3 107 yX3_back, .instanceMethod yX3_back, .selects RX3 yX3_back yX3_back, .code yX3_back cX3_back 3 (some .long)] ++ wsX30)
def wsX3_factor_r1 : List Cond := [Cond.fieldLink RX3 13 "DeliveryBasketModel" "notional" "I", Cond.constantLong RX3 105 (10000), Cond.methodLink RX3 113 yX3_worth, Cond.instanceMethod yX3_worth, Cond.selects RX3 yX3_worth yX3_worth, Cond.initialized RX3, Cond.code yX3_worth cX3_worth 6 (some .long), Cond.methodLink RX3 95 yX3_of1, Cond.instanceMethod yX3_of1, Cond.selects RX3 yX3_of1 yX3_of1, Cond.code yX3_of1 cX3_of1 3 (some .int), Cond.fieldLink RX3 7 "DeliveryBasketModel" "bond" "[I", Cond.methodLink RX3 110 yX3_flow1, Cond.instanceMethod yX3_flow1, Cond.selects RX3 yX3_flow1 yX3_flow1, Cond.code yX3_flow1 cX3_flow1 5 (some .long), Cond.methodLink RX3 101 yX3_owed, Cond.instanceMethod yX3_owed, Cond.selects RX3 yX3_owed yX3_owed, Cond.code yX3_owed cX3_owed 4 (some .long), Cond.constantLong RX3 99 (100000000), Cond.methodLink RX3 107 yX3_back, Cond.instanceMethod yX3_back, Cond.selects RX3 yX3_back yX3_back]
def wsX3_factor_r2 : List Cond := [Cond.code yX3_back cX3_back 3 (some .long)]
def wsX3_factor : List Cond := .code yX3_factor cX3_factor 2 (some .long) :: ((wsX3_factor_r1 ++ wsX3_factor_r2) ++ wsX30)
def wsX3_isEligible_r1 : List Cond := [Cond.fieldLink RX3 33 "DeliveryBasketModel" "alone" "I", Cond.fieldLink RX3 36 "DeliveryBasketModel" "but" "I", Cond.fieldLink RX3 17 "DeliveryBasketModel" "least" "I", Cond.fieldLink RX3 20 "DeliveryBasketModel" "most" "I", Cond.methodLink RX3 95 yX3_of1, Cond.instanceMethod yX3_of1, Cond.selects RX3 yX3_of1 yX3_of1, Cond.initialized RX3, Cond.code yX3_of1 cX3_of1 3 (some .int), Cond.fieldLink RX3 7 "DeliveryBasketModel" "bond" "[I", Cond.methodLink RX3 67 yX3_isIn, Cond.static yX3_isIn, Cond.code yX3_isIn cX3_isIn 6 (some .boolean), Cond.methodLink RX3 116 yX3_factor, Cond.instanceMethod yX3_factor, Cond.selects RX3 yX3_factor yX3_factor, Cond.code yX3_factor cX3_factor 2 (some .long), Cond.fieldLink RX3 13 "DeliveryBasketModel" "notional" "I", Cond.constantLong RX3 105 (10000), Cond.methodLink RX3 113 yX3_worth, Cond.instanceMethod yX3_worth, Cond.selects RX3 yX3_worth yX3_worth, Cond.code yX3_worth cX3_worth 6 (some .long), Cond.methodLink RX3 110 yX3_flow1]
def wsX3_isEligible_r2 : List Cond := [Cond.instanceMethod yX3_flow1, Cond.selects RX3 yX3_flow1 yX3_flow1, Cond.code yX3_flow1 cX3_flow1 5 (some .long), Cond.methodLink RX3 101 yX3_owed, Cond.instanceMethod yX3_owed, Cond.selects RX3 yX3_owed yX3_owed, Cond.code yX3_owed cX3_owed 4 (some .long), Cond.constantLong RX3 99 (100000000), Cond.methodLink RX3 107 yX3_back, Cond.instanceMethod yX3_back, Cond.selects RX3 yX3_back yX3_back, Cond.code yX3_back cX3_back 3 (some .long)]
def wsX3_isEligible : List Cond := .code yX3_isEligible cX3_isEligible 2 (some .boolean) :: ((wsX3_isEligible_r1 ++ wsX3_isEligible_r2) ++ wsX30)
def wsX3_eligible_r1 : List Cond := [Cond.fieldLink RX3 64 "DeliveryBasketModel" "many" "I", Cond.methodLink RX3 120 yX3_isEligible, Cond.instanceMethod yX3_isEligible, Cond.selects RX3 yX3_isEligible yX3_isEligible, Cond.initialized RX3, Cond.code yX3_isEligible cX3_isEligible 2 (some .boolean), Cond.fieldLink RX3 33 "DeliveryBasketModel" "alone" "I", Cond.fieldLink RX3 36 "DeliveryBasketModel" "but" "I", Cond.fieldLink RX3 17 "DeliveryBasketModel" "least" "I", Cond.fieldLink RX3 20 "DeliveryBasketModel" "most" "I", Cond.methodLink RX3 95 yX3_of1, Cond.instanceMethod yX3_of1, Cond.selects RX3 yX3_of1 yX3_of1, Cond.code yX3_of1 cX3_of1 3 (some .int), Cond.fieldLink RX3 7 "DeliveryBasketModel" "bond" "[I", Cond.methodLink RX3 67 yX3_isIn, Cond.static yX3_isIn, Cond.code yX3_isIn cX3_isIn 6 (some .boolean), Cond.methodLink RX3 116 yX3_factor, Cond.instanceMethod yX3_factor, Cond.selects RX3 yX3_factor yX3_factor, Cond.code yX3_factor cX3_factor 2 (some .long), Cond.fieldLink RX3 13 "DeliveryBasketModel" "notional" "I", Cond.constantLong RX3 105 (10000)]
def wsX3_eligible_r2 : List Cond := [Cond.methodLink RX3 113 yX3_worth, Cond.instanceMethod yX3_worth, Cond.selects RX3 yX3_worth yX3_worth, Cond.code yX3_worth cX3_worth 6 (some .long), Cond.methodLink RX3 110 yX3_flow1, Cond.instanceMethod yX3_flow1, Cond.selects RX3 yX3_flow1 yX3_flow1, Cond.code yX3_flow1 cX3_flow1 5 (some .long), Cond.methodLink RX3 101 yX3_owed, Cond.instanceMethod yX3_owed, Cond.selects RX3 yX3_owed yX3_owed, Cond.code yX3_owed cX3_owed 4 (some .long), Cond.constantLong RX3 99 (100000000), Cond.methodLink RX3 107 yX3_back, Cond.instanceMethod yX3_back, Cond.selects RX3 yX3_back yX3_back, Cond.code yX3_back cX3_back 3 (some .long)]
def wsX3_eligible : List Cond := .code yX3_eligible cX3_eligible 3 (some .int) :: ((wsX3_eligible_r1 ++ wsX3_eligible_r2) ++ wsX30)
def wsX3_isAny_r1 : List Cond := [Cond.methodLink RX3 123 yX3_eligible, Cond.instanceMethod yX3_eligible, Cond.selects RX3 yX3_eligible yX3_eligible, Cond.initialized RX3, Cond.code yX3_eligible cX3_eligible 3 (some .int), Cond.fieldLink RX3 64 "DeliveryBasketModel" "many" "I", Cond.methodLink RX3 120 yX3_isEligible, Cond.instanceMethod yX3_isEligible, Cond.selects RX3 yX3_isEligible yX3_isEligible, Cond.code yX3_isEligible cX3_isEligible 2 (some .boolean), Cond.fieldLink RX3 33 "DeliveryBasketModel" "alone" "I", Cond.fieldLink RX3 36 "DeliveryBasketModel" "but" "I", Cond.fieldLink RX3 17 "DeliveryBasketModel" "least" "I", Cond.fieldLink RX3 20 "DeliveryBasketModel" "most" "I", Cond.methodLink RX3 95 yX3_of1, Cond.instanceMethod yX3_of1, Cond.selects RX3 yX3_of1 yX3_of1, Cond.code yX3_of1 cX3_of1 3 (some .int), Cond.fieldLink RX3 7 "DeliveryBasketModel" "bond" "[I", Cond.methodLink RX3 67 yX3_isIn, Cond.static yX3_isIn, Cond.code yX3_isIn cX3_isIn 6 (some .boolean), Cond.methodLink RX3 116 yX3_factor, Cond.instanceMethod yX3_factor]
def wsX3_isAny_r2 : List Cond := [Cond.selects RX3 yX3_factor yX3_factor, Cond.code yX3_factor cX3_factor 2 (some .long), Cond.fieldLink RX3 13 "DeliveryBasketModel" "notional" "I", Cond.constantLong RX3 105 (10000), Cond.methodLink RX3 113 yX3_worth, Cond.instanceMethod yX3_worth, Cond.selects RX3 yX3_worth yX3_worth, Cond.code yX3_worth cX3_worth 6 (some .long), Cond.methodLink RX3 110 yX3_flow1, Cond.instanceMethod yX3_flow1, Cond.selects RX3 yX3_flow1 yX3_flow1, Cond.code yX3_flow1 cX3_flow1 5 (some .long), Cond.methodLink RX3 101 yX3_owed, Cond.instanceMethod yX3_owed, Cond.selects RX3 yX3_owed yX3_owed, Cond.code yX3_owed cX3_owed 4 (some .long), Cond.constantLong RX3 99 (100000000), Cond.methodLink RX3 107 yX3_back, Cond.instanceMethod yX3_back, Cond.selects RX3 yX3_back yX3_back, Cond.code yX3_back cX3_back 3 (some .long)]
def wsX3_isAny : List Cond := .code yX3_isAny cX3_isAny 1 (some .boolean) :: ((wsX3_isAny_r1 ++ wsX3_isAny_r2) ++ wsX30)
def wsX3_of_r1 : List Cond := [Cond.fieldLink RX3 61 "DeliveryBasketModel" "thrown" "I", Cond.methodLink RX3 87 yX3_isBond, Cond.instanceMethod yX3_isBond, Cond.selects RX3 yX3_isBond yX3_isBond, Cond.initialized RX3, Cond.code yX3_isBond cX3_isBond 2 (some .boolean), Cond.fieldLink RX3 64 "DeliveryBasketModel" "many" "I", Cond.methodLink RX3 67 yX3_isIn, Cond.static yX3_isIn, Cond.code yX3_isIn cX3_isIn 6 (some .boolean), Cond.methodLink RX3 127 yX3_refuse, Cond.instanceMethod yX3_refuse, Cond.selects RX3 yX3_refuse yX3_refuse, Cond.code yX3_refuse cX3_refuse 1 (some .int), Cond.methodLink RX3 95 yX3_of1, Cond.instanceMethod yX3_of1, Cond.selects RX3 yX3_of1 yX3_of1, Cond.code yX3_of1 cX3_of1 3 (some .int), Cond.fieldLink RX3 7 "DeliveryBasketModel" "bond" "[I", Cond.methodLink RX3 116 yX3_factor, Cond.instanceMethod yX3_factor, Cond.selects RX3 yX3_factor yX3_factor, Cond.code yX3_factor cX3_factor 2 (some .long), Cond.fieldLink RX3 13 "DeliveryBasketModel" "notional" "I"]
def wsX3_of_r2 : List Cond := [Cond.constantLong RX3 105 (10000), Cond.methodLink RX3 113 yX3_worth, Cond.instanceMethod yX3_worth, Cond.selects RX3 yX3_worth yX3_worth, Cond.code yX3_worth cX3_worth 6 (some .long), Cond.methodLink RX3 110 yX3_flow1, Cond.instanceMethod yX3_flow1, Cond.selects RX3 yX3_flow1 yX3_flow1, Cond.code yX3_flow1 cX3_flow1 5 (some .long), Cond.methodLink RX3 101 yX3_owed, Cond.instanceMethod yX3_owed, Cond.selects RX3 yX3_owed yX3_owed, Cond.code yX3_owed cX3_owed 4 (some .long), Cond.constantLong RX3 99 (100000000), Cond.methodLink RX3 107 yX3_back, Cond.instanceMethod yX3_back, Cond.selects RX3 yX3_back yX3_back, Cond.code yX3_back cX3_back 3 (some .long), Cond.methodLink RX3 120 yX3_isEligible, Cond.instanceMethod yX3_isEligible, Cond.selects RX3 yX3_isEligible yX3_isEligible, Cond.code yX3_isEligible cX3_isEligible 2 (some .boolean), Cond.fieldLink RX3 33 "DeliveryBasketModel" "alone" "I", Cond.fieldLink RX3 36 "DeliveryBasketModel" "but" "I"]
def wsX3_of_r3 : List Cond := [Cond.fieldLink RX3 17 "DeliveryBasketModel" "least" "I", Cond.fieldLink RX3 20 "DeliveryBasketModel" "most" "I"]
def wsX3_of : List Cond := .code yX3_of cX3_of 3 (some .int) :: ((wsX3_of_r1 ++ (wsX3_of_r2 ++ wsX3_of_r3)) ++ wsX30)
def wsX3_flow_r1 : List Cond := [Cond.fieldLink RX3 61 "DeliveryBasketModel" "thrown" "I", Cond.methodLink RX3 87 yX3_isBond, Cond.instanceMethod yX3_isBond, Cond.selects RX3 yX3_isBond yX3_isBond, Cond.initialized RX3, Cond.code yX3_isBond cX3_isBond 2 (some .boolean), Cond.fieldLink RX3 64 "DeliveryBasketModel" "many" "I", Cond.methodLink RX3 67 yX3_isIn, Cond.static yX3_isIn, Cond.code yX3_isIn cX3_isIn 6 (some .boolean), Cond.methodLink RX3 95 yX3_of1, Cond.instanceMethod yX3_of1, Cond.selects RX3 yX3_of1 yX3_of1, Cond.code yX3_of1 cX3_of1 3 (some .int), Cond.fieldLink RX3 7 "DeliveryBasketModel" "bond" "[I", Cond.methodLink RX3 110 yX3_flow1, Cond.instanceMethod yX3_flow1, Cond.selects RX3 yX3_flow1 yX3_flow1, Cond.code yX3_flow1 cX3_flow1 5 (some .long), Cond.constantLong RX3 105 (10000), Cond.methodLink RX3 101 yX3_owed, Cond.instanceMethod yX3_owed, Cond.selects RX3 yX3_owed yX3_owed, Cond.code yX3_owed cX3_owed 4 (some .long)]
def wsX3_flow_r2 : List Cond := [Cond.constantLong RX3 99 (100000000), Cond.methodLink RX3 107 yX3_back, Cond.instanceMethod yX3_back, Cond.selects RX3 yX3_back yX3_back, Cond.code yX3_back cX3_back 3 (some .long)]
def wsX3_flow : List Cond := .code yX3_flow cX3_flow 3 (some .int) :: ((wsX3_flow_r1 ++ wsX3_flow_r2) ++ wsX30)
def wsX3_isRate : List Cond := .code yX3_isRate cX3_isRate 1 (some .boolean) :: ([.constantLong RX3 130 (3000), .methodLink RX3 67 yX3_isIn, .static yX3_isIn, .initialized RX3, .code yX3_isIn cX3_isIn 6 (some .boolean)])
def wsX3_price_r1 : List Cond := [Cond.fieldLink RX3 61 "DeliveryBasketModel" "thrown" "I", Cond.methodLink RX3 87 yX3_isBond, Cond.instanceMethod yX3_isBond, Cond.selects RX3 yX3_isBond yX3_isBond, Cond.initialized RX3, Cond.code yX3_isBond cX3_isBond 2 (some .boolean), Cond.fieldLink RX3 64 "DeliveryBasketModel" "many" "I", Cond.methodLink RX3 67 yX3_isIn, Cond.static yX3_isIn, Cond.code yX3_isIn cX3_isIn 6 (some .boolean), Cond.methodLink RX3 132 yX3_isRate, Cond.static yX3_isRate, Cond.code yX3_isRate cX3_isRate 1 (some .boolean), Cond.constantLong RX3 130 (3000), Cond.methodLink RX3 135 yX3_price1, Cond.instanceMethod yX3_price1, Cond.selects RX3 yX3_price1 yX3_price1, Cond.code yX3_price1 cX3_price1 4 (some .long), Cond.methodLink RX3 95 yX3_of1, Cond.instanceMethod yX3_of1, Cond.selects RX3 yX3_of1 yX3_of1, Cond.code yX3_of1 cX3_of1 3 (some .int), Cond.fieldLink RX3 7 "DeliveryBasketModel" "bond" "[I", Cond.methodLink RX3 113 yX3_worth]
def wsX3_price_r2 : List Cond := [Cond.instanceMethod yX3_worth, Cond.selects RX3 yX3_worth yX3_worth, Cond.code yX3_worth cX3_worth 6 (some .long), Cond.constantLong RX3 105 (10000), Cond.methodLink RX3 110 yX3_flow1, Cond.instanceMethod yX3_flow1, Cond.selects RX3 yX3_flow1 yX3_flow1, Cond.code yX3_flow1 cX3_flow1 5 (some .long), Cond.methodLink RX3 101 yX3_owed, Cond.instanceMethod yX3_owed, Cond.selects RX3 yX3_owed yX3_owed, Cond.code yX3_owed cX3_owed 4 (some .long), Cond.constantLong RX3 99 (100000000), Cond.methodLink RX3 107 yX3_back, Cond.instanceMethod yX3_back, Cond.selects RX3 yX3_back yX3_back, Cond.code yX3_back cX3_back 3 (some .long)]
def wsX3_price : List Cond := .code yX3_price cX3_price 3 (some .int) :: ((wsX3_price_r1 ++ wsX3_price_r2) ++ wsX30)
def wsX3_rateOf_r1 : List Cond := [Cond.fieldLink RX3 61 "DeliveryBasketModel" "thrown" "I", Cond.methodLink RX3 87 yX3_isBond, Cond.instanceMethod yX3_isBond, Cond.selects RX3 yX3_isBond yX3_isBond, Cond.initialized RX3, Cond.code yX3_isBond cX3_isBond 2 (some .boolean), Cond.fieldLink RX3 64 "DeliveryBasketModel" "many" "I", Cond.methodLink RX3 67 yX3_isIn, Cond.static yX3_isIn, Cond.code yX3_isIn cX3_isIn 6 (some .boolean), Cond.methodLink RX3 135 yX3_price1, Cond.instanceMethod yX3_price1, Cond.selects RX3 yX3_price1 yX3_price1, Cond.code yX3_price1 cX3_price1 4 (some .long), Cond.methodLink RX3 95 yX3_of1, Cond.instanceMethod yX3_of1, Cond.selects RX3 yX3_of1 yX3_of1, Cond.code yX3_of1 cX3_of1 3 (some .int), Cond.fieldLink RX3 7 "DeliveryBasketModel" "bond" "[I", Cond.methodLink RX3 113 yX3_worth, Cond.instanceMethod yX3_worth, Cond.selects RX3 yX3_worth yX3_worth, Cond.code yX3_worth cX3_worth 6 (some .long), Cond.constantLong RX3 105 (10000)]
def wsX3_rateOf_r2 : List Cond := [Cond.methodLink RX3 110 yX3_flow1, Cond.instanceMethod yX3_flow1, Cond.selects RX3 yX3_flow1 yX3_flow1, Cond.code yX3_flow1 cX3_flow1 5 (some .long), Cond.methodLink RX3 101 yX3_owed, Cond.instanceMethod yX3_owed, Cond.selects RX3 yX3_owed yX3_owed, Cond.code yX3_owed cX3_owed 4 (some .long), Cond.constantLong RX3 99 (100000000), Cond.methodLink RX3 107 yX3_back, Cond.instanceMethod yX3_back, Cond.selects RX3 yX3_back yX3_back, Cond.code yX3_back cX3_back 3 (some .long)]
def wsX3_rateOf : List Cond := .code yX3_rateOf cX3_rateOf 4 (some .int) :: ((wsX3_rateOf_r1 ++ wsX3_rateOf_r2) ++ wsX30)
def wsX3_contract : List Cond := .code yX3_contract cX3_contract 4 (some .boolean) :: ([.fieldLink RX3 61 "DeliveryBasketModel" "thrown" "I", .constantLong RX3 75 (40), .fieldLink RX3 13 "DeliveryBasketModel" "notional" "I", .fieldLink RX3 17 "DeliveryBasketModel" "least" "I", .fieldLink RX3 20 "DeliveryBasketModel" "most" "I", .methodLink RX3 132 yX3_isRate, .static yX3_isRate, .initialized RX3, .code yX3_isRate cX3_isRate 1 (some .boolean), .constantLong RX3 130 (3000), .methodLink RX3 67 yX3_isIn, .static yX3_isIn, .code yX3_isIn cX3_isIn 6 (some .boolean)] ++ wsX30)
def wsX3_stocks_r1 : List Cond := [Cond.fieldLink RX3 64 "DeliveryBasketModel" "many" "I", Cond.methodLink RX3 120 yX3_isEligible, Cond.instanceMethod yX3_isEligible, Cond.selects RX3 yX3_isEligible yX3_isEligible, Cond.initialized RX3, Cond.code yX3_isEligible cX3_isEligible 2 (some .boolean), Cond.fieldLink RX3 33 "DeliveryBasketModel" "alone" "I", Cond.fieldLink RX3 36 "DeliveryBasketModel" "but" "I", Cond.fieldLink RX3 17 "DeliveryBasketModel" "least" "I", Cond.fieldLink RX3 20 "DeliveryBasketModel" "most" "I", Cond.methodLink RX3 95 yX3_of1, Cond.instanceMethod yX3_of1, Cond.selects RX3 yX3_of1 yX3_of1, Cond.code yX3_of1 cX3_of1 3 (some .int), Cond.fieldLink RX3 7 "DeliveryBasketModel" "bond" "[I", Cond.methodLink RX3 67 yX3_isIn, Cond.static yX3_isIn, Cond.code yX3_isIn cX3_isIn 6 (some .boolean), Cond.methodLink RX3 116 yX3_factor, Cond.instanceMethod yX3_factor, Cond.selects RX3 yX3_factor yX3_factor, Cond.code yX3_factor cX3_factor 2 (some .long), Cond.fieldLink RX3 13 "DeliveryBasketModel" "notional" "I", Cond.constantLong RX3 105 (10000)]
def wsX3_stocks_r2 : List Cond := [Cond.methodLink RX3 113 yX3_worth, Cond.instanceMethod yX3_worth, Cond.selects RX3 yX3_worth yX3_worth, Cond.code yX3_worth cX3_worth 6 (some .long), Cond.methodLink RX3 110 yX3_flow1, Cond.instanceMethod yX3_flow1, Cond.selects RX3 yX3_flow1 yX3_flow1, Cond.code yX3_flow1 cX3_flow1 5 (some .long), Cond.methodLink RX3 101 yX3_owed, Cond.instanceMethod yX3_owed, Cond.selects RX3 yX3_owed yX3_owed, Cond.code yX3_owed cX3_owed 4 (some .long), Cond.constantLong RX3 99 (100000000), Cond.methodLink RX3 107 yX3_back, Cond.instanceMethod yX3_back, Cond.selects RX3 yX3_back yX3_back, Cond.code yX3_back cX3_back 3 (some .long)]
def wsX3_stocks : List Cond := .code yX3_stocks cX3_stocks 3 (some .int) :: ((wsX3_stocks_r1 ++ wsX3_stocks_r2) ++ wsX30)
def wsX3_count_r1 : List Cond := [Cond.fieldLink RX3 61 "DeliveryBasketModel" "thrown" "I", Cond.fieldLink RX3 64 "DeliveryBasketModel" "many" "I", Cond.fieldLink RX3 13 "DeliveryBasketModel" "notional" "I", Cond.fieldLink RX3 17 "DeliveryBasketModel" "least" "I", Cond.fieldLink RX3 20 "DeliveryBasketModel" "most" "I", Cond.fieldLink RX3 141 "DeliveryBasketModel" "days" "I", Cond.fieldLink RX3 23 "DeliveryBasketModel" "start" "I", Cond.fieldLink RX3 26 "DeliveryBasketModel" "jump" "I", Cond.fieldLink RX3 144 "DeliveryBasketModel" "carry" "I", Cond.fieldLink RX3 30 "DeliveryBasketModel" "agreed" "I", Cond.methodLink RX3 123 yX3_eligible, Cond.instanceMethod yX3_eligible, Cond.selects RX3 yX3_eligible yX3_eligible, Cond.initialized RX3, Cond.code yX3_eligible cX3_eligible 3 (some .int), Cond.methodLink RX3 120 yX3_isEligible, Cond.instanceMethod yX3_isEligible, Cond.selects RX3 yX3_isEligible yX3_isEligible, Cond.code yX3_isEligible cX3_isEligible 2 (some .boolean), Cond.fieldLink RX3 33 "DeliveryBasketModel" "alone" "I", Cond.fieldLink RX3 36 "DeliveryBasketModel" "but" "I", Cond.methodLink RX3 95 yX3_of1, Cond.instanceMethod yX3_of1, Cond.selects RX3 yX3_of1 yX3_of1]
def wsX3_count_r2 : List Cond := [Cond.code yX3_of1 cX3_of1 3 (some .int), Cond.fieldLink RX3 7 "DeliveryBasketModel" "bond" "[I", Cond.methodLink RX3 67 yX3_isIn, Cond.static yX3_isIn, Cond.code yX3_isIn cX3_isIn 6 (some .boolean), Cond.methodLink RX3 116 yX3_factor, Cond.instanceMethod yX3_factor, Cond.selects RX3 yX3_factor yX3_factor, Cond.code yX3_factor cX3_factor 2 (some .long), Cond.constantLong RX3 105 (10000), Cond.methodLink RX3 113 yX3_worth, Cond.instanceMethod yX3_worth, Cond.selects RX3 yX3_worth yX3_worth, Cond.code yX3_worth cX3_worth 6 (some .long), Cond.methodLink RX3 110 yX3_flow1, Cond.instanceMethod yX3_flow1, Cond.selects RX3 yX3_flow1 yX3_flow1, Cond.code yX3_flow1 cX3_flow1 5 (some .long), Cond.methodLink RX3 101 yX3_owed, Cond.instanceMethod yX3_owed, Cond.selects RX3 yX3_owed yX3_owed, Cond.code yX3_owed cX3_owed 4 (some .long), Cond.constantLong RX3 99 (100000000), Cond.methodLink RX3 107 yX3_back]
def wsX3_count_r3 : List Cond := [Cond.instanceMethod yX3_back, Cond.selects RX3 yX3_back yX3_back, Cond.code yX3_back cX3_back 3 (some .long), Cond.methodLink RX3 138 yX3_stocks, Cond.instanceMethod yX3_stocks, Cond.selects RX3 yX3_stocks yX3_stocks, Cond.code yX3_stocks cX3_stocks 3 (some .int)]
def wsX3_count : List Cond := .code yX3_count cX3_count 2 (some .int) :: ((wsX3_count_r1 ++ (wsX3_count_r2 ++ wsX3_count_r3)) ++ wsX30)
def wsX3_isDearer_r1 : List Cond := [Cond.methodLink RX3 135 yX3_price1, Cond.instanceMethod yX3_price1, Cond.selects RX3 yX3_price1 yX3_price1, Cond.initialized RX3, Cond.code yX3_price1 cX3_price1 4 (some .long), Cond.methodLink RX3 95 yX3_of1, Cond.instanceMethod yX3_of1, Cond.selects RX3 yX3_of1 yX3_of1, Cond.code yX3_of1 cX3_of1 3 (some .int), Cond.fieldLink RX3 7 "DeliveryBasketModel" "bond" "[I", Cond.methodLink RX3 113 yX3_worth, Cond.instanceMethod yX3_worth, Cond.selects RX3 yX3_worth yX3_worth, Cond.code yX3_worth cX3_worth 6 (some .long), Cond.constantLong RX3 105 (10000), Cond.methodLink RX3 110 yX3_flow1, Cond.instanceMethod yX3_flow1, Cond.selects RX3 yX3_flow1 yX3_flow1, Cond.code yX3_flow1 cX3_flow1 5 (some .long), Cond.methodLink RX3 101 yX3_owed, Cond.instanceMethod yX3_owed, Cond.selects RX3 yX3_owed yX3_owed, Cond.code yX3_owed cX3_owed 4 (some .long), Cond.constantLong RX3 99 (100000000)]
def wsX3_isDearer_r2 : List Cond := [Cond.methodLink RX3 107 yX3_back, Cond.instanceMethod yX3_back, Cond.selects RX3 yX3_back yX3_back, Cond.code yX3_back cX3_back 3 (some .long), Cond.methodLink RX3 116 yX3_factor, Cond.instanceMethod yX3_factor, Cond.selects RX3 yX3_factor yX3_factor, Cond.code yX3_factor cX3_factor 2 (some .long), Cond.fieldLink RX3 13 "DeliveryBasketModel" "notional" "I"]
def wsX3_isDearer : List Cond := .code yX3_isDearer cX3_isDearer 4 (some .boolean) :: ((wsX3_isDearer_r1 ++ wsX3_isDearer_r2) ++ wsX30)
def wsX3_cheapest1_r1 : List Cond := [Cond.fieldLink RX3 64 "DeliveryBasketModel" "many" "I", Cond.methodLink RX3 120 yX3_isEligible, Cond.instanceMethod yX3_isEligible, Cond.selects RX3 yX3_isEligible yX3_isEligible, Cond.initialized RX3, Cond.code yX3_isEligible cX3_isEligible 2 (some .boolean), Cond.fieldLink RX3 33 "DeliveryBasketModel" "alone" "I", Cond.fieldLink RX3 36 "DeliveryBasketModel" "but" "I", Cond.fieldLink RX3 17 "DeliveryBasketModel" "least" "I", Cond.fieldLink RX3 20 "DeliveryBasketModel" "most" "I", Cond.methodLink RX3 95 yX3_of1, Cond.instanceMethod yX3_of1, Cond.selects RX3 yX3_of1 yX3_of1, Cond.code yX3_of1 cX3_of1 3 (some .int), Cond.fieldLink RX3 7 "DeliveryBasketModel" "bond" "[I", Cond.methodLink RX3 67 yX3_isIn, Cond.static yX3_isIn, Cond.code yX3_isIn cX3_isIn 6 (some .boolean), Cond.methodLink RX3 116 yX3_factor, Cond.instanceMethod yX3_factor, Cond.selects RX3 yX3_factor yX3_factor, Cond.code yX3_factor cX3_factor 2 (some .long), Cond.fieldLink RX3 13 "DeliveryBasketModel" "notional" "I", Cond.constantLong RX3 105 (10000)]
def wsX3_cheapest1_r2 : List Cond := [Cond.methodLink RX3 113 yX3_worth, Cond.instanceMethod yX3_worth, Cond.selects RX3 yX3_worth yX3_worth, Cond.code yX3_worth cX3_worth 6 (some .long), Cond.methodLink RX3 110 yX3_flow1, Cond.instanceMethod yX3_flow1, Cond.selects RX3 yX3_flow1 yX3_flow1, Cond.code yX3_flow1 cX3_flow1 5 (some .long), Cond.methodLink RX3 101 yX3_owed, Cond.instanceMethod yX3_owed, Cond.selects RX3 yX3_owed yX3_owed, Cond.code yX3_owed cX3_owed 4 (some .long), Cond.constantLong RX3 99 (100000000), Cond.methodLink RX3 107 yX3_back, Cond.instanceMethod yX3_back, Cond.selects RX3 yX3_back yX3_back, Cond.code yX3_back cX3_back 3 (some .long), Cond.methodLink RX3 147 yX3_isDearer, Cond.instanceMethod yX3_isDearer, Cond.selects RX3 yX3_isDearer yX3_isDearer, Cond.code yX3_isDearer cX3_isDearer 4 (some .boolean), Cond.methodLink RX3 135 yX3_price1, Cond.instanceMethod yX3_price1, Cond.selects RX3 yX3_price1 yX3_price1]
def wsX3_cheapest1_r3 : List Cond := [Cond.code yX3_price1 cX3_price1 4 (some .long)]
def wsX3_cheapest1 : List Cond := .code yX3_cheapest1 cX3_cheapest1 4 (some .int) :: ((wsX3_cheapest1_r1 ++ (wsX3_cheapest1_r2 ++ wsX3_cheapest1_r3)) ++ wsX30)
def wsX3_cheapest_r1 : List Cond := [Cond.fieldLink RX3 61 "DeliveryBasketModel" "thrown" "I", Cond.methodLink RX3 132 yX3_isRate, Cond.static yX3_isRate, Cond.initialized RX3, Cond.code yX3_isRate cX3_isRate 1 (some .boolean), Cond.constantLong RX3 130 (3000), Cond.methodLink RX3 67 yX3_isIn, Cond.static yX3_isIn, Cond.code yX3_isIn cX3_isIn 6 (some .boolean), Cond.methodLink RX3 151 yX3_cheapest1, Cond.instanceMethod yX3_cheapest1, Cond.selects RX3 yX3_cheapest1 yX3_cheapest1, Cond.code yX3_cheapest1 cX3_cheapest1 4 (some .int), Cond.fieldLink RX3 64 "DeliveryBasketModel" "many" "I", Cond.methodLink RX3 120 yX3_isEligible, Cond.instanceMethod yX3_isEligible, Cond.selects RX3 yX3_isEligible yX3_isEligible, Cond.code yX3_isEligible cX3_isEligible 2 (some .boolean), Cond.fieldLink RX3 33 "DeliveryBasketModel" "alone" "I", Cond.fieldLink RX3 36 "DeliveryBasketModel" "but" "I", Cond.fieldLink RX3 17 "DeliveryBasketModel" "least" "I", Cond.fieldLink RX3 20 "DeliveryBasketModel" "most" "I", Cond.methodLink RX3 95 yX3_of1, Cond.instanceMethod yX3_of1]
def wsX3_cheapest_r2 : List Cond := [Cond.selects RX3 yX3_of1 yX3_of1, Cond.code yX3_of1 cX3_of1 3 (some .int), Cond.fieldLink RX3 7 "DeliveryBasketModel" "bond" "[I", Cond.methodLink RX3 116 yX3_factor, Cond.instanceMethod yX3_factor, Cond.selects RX3 yX3_factor yX3_factor, Cond.code yX3_factor cX3_factor 2 (some .long), Cond.fieldLink RX3 13 "DeliveryBasketModel" "notional" "I", Cond.constantLong RX3 105 (10000), Cond.methodLink RX3 113 yX3_worth, Cond.instanceMethod yX3_worth, Cond.selects RX3 yX3_worth yX3_worth, Cond.code yX3_worth cX3_worth 6 (some .long), Cond.methodLink RX3 110 yX3_flow1, Cond.instanceMethod yX3_flow1, Cond.selects RX3 yX3_flow1 yX3_flow1, Cond.code yX3_flow1 cX3_flow1 5 (some .long), Cond.methodLink RX3 101 yX3_owed, Cond.instanceMethod yX3_owed, Cond.selects RX3 yX3_owed yX3_owed, Cond.code yX3_owed cX3_owed 4 (some .long), Cond.constantLong RX3 99 (100000000), Cond.methodLink RX3 107 yX3_back, Cond.instanceMethod yX3_back]
def wsX3_cheapest_r3 : List Cond := [Cond.selects RX3 yX3_back yX3_back, Cond.code yX3_back cX3_back 3 (some .long), Cond.methodLink RX3 147 yX3_isDearer, Cond.instanceMethod yX3_isDearer, Cond.selects RX3 yX3_isDearer yX3_isDearer, Cond.code yX3_isDearer cX3_isDearer 4 (some .boolean), Cond.methodLink RX3 135 yX3_price1, Cond.instanceMethod yX3_price1, Cond.selects RX3 yX3_price1 yX3_price1, Cond.code yX3_price1 cX3_price1 4 (some .long)]
def wsX3_cheapest : List Cond := .code yX3_cheapest cX3_cheapest 2 (some .int) :: ((wsX3_cheapest_r1 ++ (wsX3_cheapest_r2 ++ wsX3_cheapest_r3)) ++ wsX30)
def wsX3_ranked_r1 : List Cond := [Cond.fieldLink RX3 61 "DeliveryBasketModel" "thrown" "I", Cond.fieldLink RX3 64 "DeliveryBasketModel" "many" "I", Cond.methodLink RX3 132 yX3_isRate, Cond.static yX3_isRate, Cond.initialized RX3, Cond.code yX3_isRate cX3_isRate 1 (some .boolean), Cond.constantLong RX3 130 (3000), Cond.methodLink RX3 67 yX3_isIn, Cond.static yX3_isIn, Cond.code yX3_isIn cX3_isIn 6 (some .boolean), Cond.methodLink RX3 120 yX3_isEligible, Cond.instanceMethod yX3_isEligible, Cond.selects RX3 yX3_isEligible yX3_isEligible, Cond.code yX3_isEligible cX3_isEligible 2 (some .boolean), Cond.fieldLink RX3 33 "DeliveryBasketModel" "alone" "I", Cond.fieldLink RX3 36 "DeliveryBasketModel" "but" "I", Cond.fieldLink RX3 17 "DeliveryBasketModel" "least" "I", Cond.fieldLink RX3 20 "DeliveryBasketModel" "most" "I", Cond.methodLink RX3 95 yX3_of1, Cond.instanceMethod yX3_of1, Cond.selects RX3 yX3_of1 yX3_of1, Cond.code yX3_of1 cX3_of1 3 (some .int), Cond.fieldLink RX3 7 "DeliveryBasketModel" "bond" "[I", Cond.methodLink RX3 116 yX3_factor]
def wsX3_ranked_r2 : List Cond := [Cond.instanceMethod yX3_factor, Cond.selects RX3 yX3_factor yX3_factor, Cond.code yX3_factor cX3_factor 2 (some .long), Cond.fieldLink RX3 13 "DeliveryBasketModel" "notional" "I", Cond.constantLong RX3 105 (10000), Cond.methodLink RX3 113 yX3_worth, Cond.instanceMethod yX3_worth, Cond.selects RX3 yX3_worth yX3_worth, Cond.code yX3_worth cX3_worth 6 (some .long), Cond.methodLink RX3 110 yX3_flow1, Cond.instanceMethod yX3_flow1, Cond.selects RX3 yX3_flow1 yX3_flow1, Cond.code yX3_flow1 cX3_flow1 5 (some .long), Cond.methodLink RX3 101 yX3_owed, Cond.instanceMethod yX3_owed, Cond.selects RX3 yX3_owed yX3_owed, Cond.code yX3_owed cX3_owed 4 (some .long), Cond.constantLong RX3 99 (100000000), Cond.methodLink RX3 107 yX3_back, Cond.instanceMethod yX3_back, Cond.selects RX3 yX3_back yX3_back, Cond.code yX3_back cX3_back 3 (some .long), Cond.methodLink RX3 147 yX3_isDearer, Cond.instanceMethod yX3_isDearer]
def wsX3_ranked_r3 : List Cond := [Cond.selects RX3 yX3_isDearer yX3_isDearer, Cond.code yX3_isDearer cX3_isDearer 4 (some .boolean), Cond.methodLink RX3 135 yX3_price1, Cond.instanceMethod yX3_price1, Cond.selects RX3 yX3_price1 yX3_price1, Cond.code yX3_price1 cX3_price1 4 (some .long)]
def wsX3_ranked : List Cond := .code yX3_ranked cX3_ranked 6 (some .int) :: ((wsX3_ranked_r1 ++ (wsX3_ranked_r2 ++ wsX3_ranked_r3)) ++ wsX30)
def wsX3_mark1_r1 : List Cond := [Cond.constantLong RX3 105 (10000), Cond.methodLink RX3 151 yX3_cheapest1, Cond.instanceMethod yX3_cheapest1, Cond.selects RX3 yX3_cheapest1 yX3_cheapest1, Cond.initialized RX3, Cond.code yX3_cheapest1 cX3_cheapest1 4 (some .int), Cond.fieldLink RX3 64 "DeliveryBasketModel" "many" "I", Cond.methodLink RX3 120 yX3_isEligible, Cond.instanceMethod yX3_isEligible, Cond.selects RX3 yX3_isEligible yX3_isEligible, Cond.code yX3_isEligible cX3_isEligible 2 (some .boolean), Cond.fieldLink RX3 33 "DeliveryBasketModel" "alone" "I", Cond.fieldLink RX3 36 "DeliveryBasketModel" "but" "I", Cond.fieldLink RX3 17 "DeliveryBasketModel" "least" "I", Cond.fieldLink RX3 20 "DeliveryBasketModel" "most" "I", Cond.methodLink RX3 95 yX3_of1, Cond.instanceMethod yX3_of1, Cond.selects RX3 yX3_of1 yX3_of1, Cond.code yX3_of1 cX3_of1 3 (some .int), Cond.fieldLink RX3 7 "DeliveryBasketModel" "bond" "[I", Cond.methodLink RX3 67 yX3_isIn, Cond.static yX3_isIn, Cond.code yX3_isIn cX3_isIn 6 (some .boolean), Cond.methodLink RX3 116 yX3_factor]
def wsX3_mark1_r2 : List Cond := [Cond.instanceMethod yX3_factor, Cond.selects RX3 yX3_factor yX3_factor, Cond.code yX3_factor cX3_factor 2 (some .long), Cond.fieldLink RX3 13 "DeliveryBasketModel" "notional" "I", Cond.methodLink RX3 113 yX3_worth, Cond.instanceMethod yX3_worth, Cond.selects RX3 yX3_worth yX3_worth, Cond.code yX3_worth cX3_worth 6 (some .long), Cond.methodLink RX3 110 yX3_flow1, Cond.instanceMethod yX3_flow1, Cond.selects RX3 yX3_flow1 yX3_flow1, Cond.code yX3_flow1 cX3_flow1 5 (some .long), Cond.methodLink RX3 101 yX3_owed, Cond.instanceMethod yX3_owed, Cond.selects RX3 yX3_owed yX3_owed, Cond.code yX3_owed cX3_owed 4 (some .long), Cond.constantLong RX3 99 (100000000), Cond.methodLink RX3 107 yX3_back, Cond.instanceMethod yX3_back, Cond.selects RX3 yX3_back yX3_back, Cond.code yX3_back cX3_back 3 (some .long), Cond.methodLink RX3 147 yX3_isDearer, Cond.instanceMethod yX3_isDearer, Cond.selects RX3 yX3_isDearer yX3_isDearer]
def wsX3_mark1_r3 : List Cond := [Cond.code yX3_isDearer cX3_isDearer 4 (some .boolean), Cond.methodLink RX3 135 yX3_price1, Cond.instanceMethod yX3_price1, Cond.selects RX3 yX3_price1 yX3_price1, Cond.code yX3_price1 cX3_price1 4 (some .long)]
def wsX3_mark1 : List Cond := .code yX3_mark1 cX3_mark1 3 (some .long) :: ((wsX3_mark1_r1 ++ (wsX3_mark1_r2 ++ wsX3_mark1_r3)) ++ wsX30)
def wsX3_mark_r1 : List Cond := [Cond.fieldLink RX3 61 "DeliveryBasketModel" "thrown" "I", Cond.constantLong RX3 162 (-1), Cond.methodLink RX3 132 yX3_isRate, Cond.static yX3_isRate, Cond.initialized RX3, Cond.code yX3_isRate cX3_isRate 1 (some .boolean), Cond.constantLong RX3 130 (3000), Cond.methodLink RX3 67 yX3_isIn, Cond.static yX3_isIn, Cond.code yX3_isIn cX3_isIn 6 (some .boolean), Cond.methodLink RX3 155 yX3_isAny, Cond.instanceMethod yX3_isAny, Cond.selects RX3 yX3_isAny yX3_isAny, Cond.code yX3_isAny cX3_isAny 1 (some .boolean), Cond.methodLink RX3 123 yX3_eligible, Cond.instanceMethod yX3_eligible, Cond.selects RX3 yX3_eligible yX3_eligible, Cond.code yX3_eligible cX3_eligible 3 (some .int), Cond.fieldLink RX3 64 "DeliveryBasketModel" "many" "I", Cond.methodLink RX3 120 yX3_isEligible, Cond.instanceMethod yX3_isEligible, Cond.selects RX3 yX3_isEligible yX3_isEligible, Cond.code yX3_isEligible cX3_isEligible 2 (some .boolean), Cond.fieldLink RX3 33 "DeliveryBasketModel" "alone" "I"]
def wsX3_mark_r2 : List Cond := [Cond.fieldLink RX3 36 "DeliveryBasketModel" "but" "I", Cond.fieldLink RX3 17 "DeliveryBasketModel" "least" "I", Cond.fieldLink RX3 20 "DeliveryBasketModel" "most" "I", Cond.methodLink RX3 95 yX3_of1, Cond.instanceMethod yX3_of1, Cond.selects RX3 yX3_of1 yX3_of1, Cond.code yX3_of1 cX3_of1 3 (some .int), Cond.fieldLink RX3 7 "DeliveryBasketModel" "bond" "[I", Cond.methodLink RX3 116 yX3_factor, Cond.instanceMethod yX3_factor, Cond.selects RX3 yX3_factor yX3_factor, Cond.code yX3_factor cX3_factor 2 (some .long), Cond.fieldLink RX3 13 "DeliveryBasketModel" "notional" "I", Cond.constantLong RX3 105 (10000), Cond.methodLink RX3 113 yX3_worth, Cond.instanceMethod yX3_worth, Cond.selects RX3 yX3_worth yX3_worth, Cond.code yX3_worth cX3_worth 6 (some .long), Cond.methodLink RX3 110 yX3_flow1, Cond.instanceMethod yX3_flow1, Cond.selects RX3 yX3_flow1 yX3_flow1, Cond.code yX3_flow1 cX3_flow1 5 (some .long), Cond.methodLink RX3 101 yX3_owed, Cond.instanceMethod yX3_owed]
def wsX3_mark_r3 : List Cond := [Cond.selects RX3 yX3_owed yX3_owed, Cond.code yX3_owed cX3_owed 4 (some .long), Cond.constantLong RX3 99 (100000000), Cond.methodLink RX3 107 yX3_back, Cond.instanceMethod yX3_back, Cond.selects RX3 yX3_back yX3_back, Cond.code yX3_back cX3_back 3 (some .long), Cond.methodLink RX3 159 yX3_mark1, Cond.instanceMethod yX3_mark1, Cond.selects RX3 yX3_mark1 yX3_mark1, Cond.code yX3_mark1 cX3_mark1 3 (some .long), Cond.methodLink RX3 151 yX3_cheapest1, Cond.instanceMethod yX3_cheapest1, Cond.selects RX3 yX3_cheapest1 yX3_cheapest1, Cond.code yX3_cheapest1 cX3_cheapest1 4 (some .int), Cond.methodLink RX3 147 yX3_isDearer, Cond.instanceMethod yX3_isDearer, Cond.selects RX3 yX3_isDearer yX3_isDearer, Cond.code yX3_isDearer cX3_isDearer 4 (some .boolean), Cond.methodLink RX3 135 yX3_price1, Cond.instanceMethod yX3_price1, Cond.selects RX3 yX3_price1 yX3_price1, Cond.code yX3_price1 cX3_price1 4 (some .long)]
def wsX3_mark : List Cond := .code yX3_mark cX3_mark 2 (some .long) :: ((wsX3_mark_r1 ++ (wsX3_mark_r2 ++ wsX3_mark_r3)) ++ wsX30)
def wsX3_invoice_r1 : List Cond := [Cond.constantLong RX3 105 (10000), Cond.methodLink RX3 116 yX3_factor, Cond.instanceMethod yX3_factor, Cond.selects RX3 yX3_factor yX3_factor, Cond.initialized RX3, Cond.code yX3_factor cX3_factor 2 (some .long), Cond.fieldLink RX3 13 "DeliveryBasketModel" "notional" "I", Cond.methodLink RX3 113 yX3_worth, Cond.instanceMethod yX3_worth, Cond.selects RX3 yX3_worth yX3_worth, Cond.code yX3_worth cX3_worth 6 (some .long), Cond.methodLink RX3 95 yX3_of1, Cond.instanceMethod yX3_of1, Cond.selects RX3 yX3_of1 yX3_of1, Cond.code yX3_of1 cX3_of1 3 (some .int), Cond.fieldLink RX3 7 "DeliveryBasketModel" "bond" "[I", Cond.methodLink RX3 110 yX3_flow1, Cond.instanceMethod yX3_flow1, Cond.selects RX3 yX3_flow1 yX3_flow1, Cond.code yX3_flow1 cX3_flow1 5 (some .long), Cond.methodLink RX3 101 yX3_owed, Cond.instanceMethod yX3_owed, Cond.selects RX3 yX3_owed yX3_owed, Cond.code yX3_owed cX3_owed 4 (some .long)]
def wsX3_invoice_r2 : List Cond := [Cond.constantLong RX3 99 (100000000), Cond.methodLink RX3 107 yX3_back, Cond.instanceMethod yX3_back, Cond.selects RX3 yX3_back yX3_back, Cond.code yX3_back cX3_back 3 (some .long)]
def wsX3_invoice : List Cond := .code yX3_invoice cX3_invoice 4 (some .long) :: ((wsX3_invoice_r1 ++ wsX3_invoice_r2) ++ wsX30)
def wsX3_gap_r1 : List Cond := [Cond.fieldLink RX3 61 "DeliveryBasketModel" "thrown" "I", Cond.methodLink RX3 87 yX3_isBond, Cond.instanceMethod yX3_isBond, Cond.selects RX3 yX3_isBond yX3_isBond, Cond.initialized RX3, Cond.code yX3_isBond cX3_isBond 2 (some .boolean), Cond.fieldLink RX3 64 "DeliveryBasketModel" "many" "I", Cond.methodLink RX3 67 yX3_isIn, Cond.static yX3_isIn, Cond.code yX3_isIn cX3_isIn 6 (some .boolean), Cond.methodLink RX3 120 yX3_isEligible, Cond.instanceMethod yX3_isEligible, Cond.selects RX3 yX3_isEligible yX3_isEligible, Cond.code yX3_isEligible cX3_isEligible 2 (some .boolean), Cond.fieldLink RX3 33 "DeliveryBasketModel" "alone" "I", Cond.fieldLink RX3 36 "DeliveryBasketModel" "but" "I", Cond.fieldLink RX3 17 "DeliveryBasketModel" "least" "I", Cond.fieldLink RX3 20 "DeliveryBasketModel" "most" "I", Cond.methodLink RX3 95 yX3_of1, Cond.instanceMethod yX3_of1, Cond.selects RX3 yX3_of1 yX3_of1, Cond.code yX3_of1 cX3_of1 3 (some .int), Cond.fieldLink RX3 7 "DeliveryBasketModel" "bond" "[I", Cond.methodLink RX3 116 yX3_factor]
def wsX3_gap_r2 : List Cond := [Cond.instanceMethod yX3_factor, Cond.selects RX3 yX3_factor yX3_factor, Cond.code yX3_factor cX3_factor 2 (some .long), Cond.fieldLink RX3 13 "DeliveryBasketModel" "notional" "I", Cond.constantLong RX3 105 (10000), Cond.methodLink RX3 113 yX3_worth, Cond.instanceMethod yX3_worth, Cond.selects RX3 yX3_worth yX3_worth, Cond.code yX3_worth cX3_worth 6 (some .long), Cond.methodLink RX3 110 yX3_flow1, Cond.instanceMethod yX3_flow1, Cond.selects RX3 yX3_flow1 yX3_flow1, Cond.code yX3_flow1 cX3_flow1 5 (some .long), Cond.methodLink RX3 101 yX3_owed, Cond.instanceMethod yX3_owed, Cond.selects RX3 yX3_owed yX3_owed, Cond.code yX3_owed cX3_owed 4 (some .long), Cond.constantLong RX3 99 (100000000), Cond.methodLink RX3 107 yX3_back, Cond.instanceMethod yX3_back, Cond.selects RX3 yX3_back yX3_back, Cond.code yX3_back cX3_back 3 (some .long), Cond.methodLink RX3 132 yX3_isRate, Cond.static yX3_isRate]
def wsX3_gap_r3 : List Cond := [Cond.code yX3_isRate cX3_isRate 1 (some .boolean), Cond.constantLong RX3 130 (3000), Cond.methodLink RX3 127 yX3_refuse, Cond.instanceMethod yX3_refuse, Cond.selects RX3 yX3_refuse yX3_refuse, Cond.code yX3_refuse cX3_refuse 1 (some .int), Cond.methodLink RX3 135 yX3_price1, Cond.instanceMethod yX3_price1, Cond.selects RX3 yX3_price1 yX3_price1, Cond.code yX3_price1 cX3_price1 4 (some .long), Cond.methodLink RX3 159 yX3_mark1, Cond.instanceMethod yX3_mark1, Cond.selects RX3 yX3_mark1 yX3_mark1, Cond.code yX3_mark1 cX3_mark1 3 (some .long), Cond.methodLink RX3 151 yX3_cheapest1, Cond.instanceMethod yX3_cheapest1, Cond.selects RX3 yX3_cheapest1 yX3_cheapest1, Cond.code yX3_cheapest1 cX3_cheapest1 4 (some .int), Cond.methodLink RX3 147 yX3_isDearer, Cond.instanceMethod yX3_isDearer, Cond.selects RX3 yX3_isDearer yX3_isDearer, Cond.code yX3_isDearer cX3_isDearer 4 (some .boolean), Cond.methodLink RX3 164 yX3_invoice, Cond.instanceMethod yX3_invoice]
def wsX3_gap_r4 : List Cond := [Cond.selects RX3 yX3_invoice yX3_invoice, Cond.code yX3_invoice cX3_invoice 4 (some .long)]
def wsX3_gap : List Cond := .code yX3_gap cX3_gap 3 (some .long) :: ((wsX3_gap_r1 ++ (wsX3_gap_r2 ++ (wsX3_gap_r3 ++ wsX3_gap_r4))) ++ wsX30)
def wsX3_switches_r1 : List Cond := [Cond.fieldLink RX3 61 "DeliveryBasketModel" "thrown" "I", Cond.methodLink RX3 132 yX3_isRate, Cond.static yX3_isRate, Cond.initialized RX3, Cond.code yX3_isRate cX3_isRate 1 (some .boolean), Cond.constantLong RX3 130 (3000), Cond.methodLink RX3 67 yX3_isIn, Cond.static yX3_isIn, Cond.code yX3_isIn cX3_isIn 6 (some .boolean), Cond.methodLink RX3 155 yX3_isAny, Cond.instanceMethod yX3_isAny, Cond.selects RX3 yX3_isAny yX3_isAny, Cond.code yX3_isAny cX3_isAny 1 (some .boolean), Cond.methodLink RX3 123 yX3_eligible, Cond.instanceMethod yX3_eligible, Cond.selects RX3 yX3_eligible yX3_eligible, Cond.code yX3_eligible cX3_eligible 3 (some .int), Cond.fieldLink RX3 64 "DeliveryBasketModel" "many" "I", Cond.methodLink RX3 120 yX3_isEligible, Cond.instanceMethod yX3_isEligible, Cond.selects RX3 yX3_isEligible yX3_isEligible, Cond.code yX3_isEligible cX3_isEligible 2 (some .boolean), Cond.fieldLink RX3 33 "DeliveryBasketModel" "alone" "I", Cond.fieldLink RX3 36 "DeliveryBasketModel" "but" "I"]
def wsX3_switches_r2 : List Cond := [Cond.fieldLink RX3 17 "DeliveryBasketModel" "least" "I", Cond.fieldLink RX3 20 "DeliveryBasketModel" "most" "I", Cond.methodLink RX3 95 yX3_of1, Cond.instanceMethod yX3_of1, Cond.selects RX3 yX3_of1 yX3_of1, Cond.code yX3_of1 cX3_of1 3 (some .int), Cond.fieldLink RX3 7 "DeliveryBasketModel" "bond" "[I", Cond.methodLink RX3 116 yX3_factor, Cond.instanceMethod yX3_factor, Cond.selects RX3 yX3_factor yX3_factor, Cond.code yX3_factor cX3_factor 2 (some .long), Cond.fieldLink RX3 13 "DeliveryBasketModel" "notional" "I", Cond.constantLong RX3 105 (10000), Cond.methodLink RX3 113 yX3_worth, Cond.instanceMethod yX3_worth, Cond.selects RX3 yX3_worth yX3_worth, Cond.code yX3_worth cX3_worth 6 (some .long), Cond.methodLink RX3 110 yX3_flow1, Cond.instanceMethod yX3_flow1, Cond.selects RX3 yX3_flow1 yX3_flow1, Cond.code yX3_flow1 cX3_flow1 5 (some .long), Cond.methodLink RX3 101 yX3_owed, Cond.instanceMethod yX3_owed, Cond.selects RX3 yX3_owed yX3_owed]
def wsX3_switches_r3 : List Cond := [Cond.code yX3_owed cX3_owed 4 (some .long), Cond.constantLong RX3 99 (100000000), Cond.methodLink RX3 107 yX3_back, Cond.instanceMethod yX3_back, Cond.selects RX3 yX3_back yX3_back, Cond.code yX3_back cX3_back 3 (some .long), Cond.methodLink RX3 151 yX3_cheapest1, Cond.instanceMethod yX3_cheapest1, Cond.selects RX3 yX3_cheapest1 yX3_cheapest1, Cond.code yX3_cheapest1 cX3_cheapest1 4 (some .int), Cond.methodLink RX3 147 yX3_isDearer, Cond.instanceMethod yX3_isDearer, Cond.selects RX3 yX3_isDearer yX3_isDearer, Cond.code yX3_isDearer cX3_isDearer 4 (some .boolean), Cond.methodLink RX3 135 yX3_price1, Cond.instanceMethod yX3_price1, Cond.selects RX3 yX3_price1 yX3_price1, Cond.code yX3_price1 cX3_price1 4 (some .long)]
def wsX3_switches : List Cond := .code yX3_switches cX3_switches 6 (some .int) :: ((wsX3_switches_r1 ++ (wsX3_switches_r2 ++ wsX3_switches_r3)) ++ wsX30)
def wsX3_implied_r1 : List Cond := [Cond.fieldLink RX3 61 "DeliveryBasketModel" "thrown" "I", Cond.methodLink RX3 155 yX3_isAny, Cond.instanceMethod yX3_isAny, Cond.selects RX3 yX3_isAny yX3_isAny, Cond.initialized RX3, Cond.code yX3_isAny cX3_isAny 1 (some .boolean), Cond.methodLink RX3 123 yX3_eligible, Cond.instanceMethod yX3_eligible, Cond.selects RX3 yX3_eligible yX3_eligible, Cond.code yX3_eligible cX3_eligible 3 (some .int), Cond.fieldLink RX3 64 "DeliveryBasketModel" "many" "I", Cond.methodLink RX3 120 yX3_isEligible, Cond.instanceMethod yX3_isEligible, Cond.selects RX3 yX3_isEligible yX3_isEligible, Cond.code yX3_isEligible cX3_isEligible 2 (some .boolean), Cond.fieldLink RX3 33 "DeliveryBasketModel" "alone" "I", Cond.fieldLink RX3 36 "DeliveryBasketModel" "but" "I", Cond.fieldLink RX3 17 "DeliveryBasketModel" "least" "I", Cond.fieldLink RX3 20 "DeliveryBasketModel" "most" "I", Cond.methodLink RX3 95 yX3_of1, Cond.instanceMethod yX3_of1, Cond.selects RX3 yX3_of1 yX3_of1, Cond.code yX3_of1 cX3_of1 3 (some .int), Cond.fieldLink RX3 7 "DeliveryBasketModel" "bond" "[I"]
def wsX3_implied_r2 : List Cond := [Cond.methodLink RX3 67 yX3_isIn, Cond.static yX3_isIn, Cond.code yX3_isIn cX3_isIn 6 (some .boolean), Cond.methodLink RX3 116 yX3_factor, Cond.instanceMethod yX3_factor, Cond.selects RX3 yX3_factor yX3_factor, Cond.code yX3_factor cX3_factor 2 (some .long), Cond.fieldLink RX3 13 "DeliveryBasketModel" "notional" "I", Cond.constantLong RX3 105 (10000), Cond.methodLink RX3 113 yX3_worth, Cond.instanceMethod yX3_worth, Cond.selects RX3 yX3_worth yX3_worth, Cond.code yX3_worth cX3_worth 6 (some .long), Cond.methodLink RX3 110 yX3_flow1, Cond.instanceMethod yX3_flow1, Cond.selects RX3 yX3_flow1 yX3_flow1, Cond.code yX3_flow1 cX3_flow1 5 (some .long), Cond.methodLink RX3 101 yX3_owed, Cond.instanceMethod yX3_owed, Cond.selects RX3 yX3_owed yX3_owed, Cond.code yX3_owed cX3_owed 4 (some .long), Cond.constantLong RX3 99 (100000000), Cond.methodLink RX3 107 yX3_back, Cond.instanceMethod yX3_back]
def wsX3_implied_r3 : List Cond := [Cond.selects RX3 yX3_back yX3_back, Cond.code yX3_back cX3_back 3 (some .long), Cond.methodLink RX3 159 yX3_mark1, Cond.instanceMethod yX3_mark1, Cond.selects RX3 yX3_mark1 yX3_mark1, Cond.code yX3_mark1 cX3_mark1 3 (some .long), Cond.methodLink RX3 151 yX3_cheapest1, Cond.instanceMethod yX3_cheapest1, Cond.selects RX3 yX3_cheapest1 yX3_cheapest1, Cond.code yX3_cheapest1 cX3_cheapest1 4 (some .int), Cond.methodLink RX3 147 yX3_isDearer, Cond.instanceMethod yX3_isDearer, Cond.selects RX3 yX3_isDearer yX3_isDearer, Cond.code yX3_isDearer cX3_isDearer 4 (some .boolean), Cond.methodLink RX3 135 yX3_price1, Cond.instanceMethod yX3_price1, Cond.selects RX3 yX3_price1 yX3_price1, Cond.code yX3_price1 cX3_price1 4 (some .long)]
def wsX3_implied : List Cond := .code yX3_implied cX3_implied 4 (some .int) :: ((wsX3_implied_r1 ++ (wsX3_implied_r2 ++ wsX3_implied_r3)) ++ wsX30)
def wsX3_meets_r1 : List Cond := [Cond.fieldLink RX3 64 "DeliveryBasketModel" "many" "I", Cond.fieldLink RX3 39 "DeliveryBasketModel" "given" "[I", Cond.fieldLink RX3 42 "DeliveryBasketModel" "costs" "[J", Cond.methodLink RX3 135 yX3_price1, Cond.instanceMethod yX3_price1, Cond.selects RX3 yX3_price1 yX3_price1, Cond.initialized RX3, Cond.code yX3_price1 cX3_price1 4 (some .long), Cond.methodLink RX3 95 yX3_of1, Cond.instanceMethod yX3_of1, Cond.selects RX3 yX3_of1 yX3_of1, Cond.code yX3_of1 cX3_of1 3 (some .int), Cond.fieldLink RX3 7 "DeliveryBasketModel" "bond" "[I", Cond.methodLink RX3 113 yX3_worth, Cond.instanceMethod yX3_worth, Cond.selects RX3 yX3_worth yX3_worth, Cond.code yX3_worth cX3_worth 6 (some .long), Cond.constantLong RX3 105 (10000), Cond.methodLink RX3 110 yX3_flow1, Cond.instanceMethod yX3_flow1, Cond.selects RX3 yX3_flow1 yX3_flow1, Cond.code yX3_flow1 cX3_flow1 5 (some .long), Cond.methodLink RX3 101 yX3_owed, Cond.instanceMethod yX3_owed]
def wsX3_meets_r2 : List Cond := [Cond.selects RX3 yX3_owed yX3_owed, Cond.code yX3_owed cX3_owed 4 (some .long), Cond.constantLong RX3 99 (100000000), Cond.methodLink RX3 107 yX3_back, Cond.instanceMethod yX3_back, Cond.selects RX3 yX3_back yX3_back, Cond.code yX3_back cX3_back 3 (some .long), Cond.methodLink RX3 164 yX3_invoice, Cond.instanceMethod yX3_invoice, Cond.selects RX3 yX3_invoice yX3_invoice, Cond.code yX3_invoice cX3_invoice 4 (some .long), Cond.methodLink RX3 116 yX3_factor, Cond.instanceMethod yX3_factor, Cond.selects RX3 yX3_factor yX3_factor, Cond.code yX3_factor cX3_factor 2 (some .long), Cond.fieldLink RX3 13 "DeliveryBasketModel" "notional" "I", Cond.methodLink RX3 120 yX3_isEligible, Cond.instanceMethod yX3_isEligible, Cond.selects RX3 yX3_isEligible yX3_isEligible, Cond.code yX3_isEligible cX3_isEligible 2 (some .boolean), Cond.fieldLink RX3 33 "DeliveryBasketModel" "alone" "I", Cond.fieldLink RX3 36 "DeliveryBasketModel" "but" "I", Cond.fieldLink RX3 17 "DeliveryBasketModel" "least" "I", Cond.fieldLink RX3 20 "DeliveryBasketModel" "most" "I"]
def wsX3_meets_r3 : List Cond := [Cond.methodLink RX3 67 yX3_isIn, Cond.static yX3_isIn, Cond.code yX3_isIn cX3_isIn 6 (some .boolean)]
def wsX3_meets : List Cond := .code yX3_meets cX3_meets 8 (some .boolean) :: ((wsX3_meets_r1 ++ (wsX3_meets_r2 ++ wsX3_meets_r3)) ++ wsX30)
def wsX3_isMeeting : List Cond := .code yX3_isMeeting cX3_isMeeting 3 (some .boolean) :: ([.constantLong RX3 79 (200), .constantLong RX3 168 (999999999), .methodLink RX3 67 yX3_isIn, .static yX3_isIn, .initialized RX3, .code yX3_isIn cX3_isIn 6 (some .boolean), .methodLink RX3 132 yX3_isRate, .static yX3_isRate, .code yX3_isRate cX3_isRate 1 (some .boolean), .constantLong RX3 130 (3000)])
def wsX3_meet_r1 : List Cond := [Cond.fieldLink RX3 61 "DeliveryBasketModel" "thrown" "I", Cond.fieldLink RX3 39 "DeliveryBasketModel" "given" "[I", Cond.methodLink RX3 170 yX3_isMeeting, Cond.static yX3_isMeeting, Cond.initialized RX3, Cond.code yX3_isMeeting cX3_isMeeting 3 (some .boolean), Cond.constantLong RX3 79 (200), Cond.constantLong RX3 168 (999999999), Cond.methodLink RX3 67 yX3_isIn, Cond.static yX3_isIn, Cond.code yX3_isIn cX3_isIn 6 (some .boolean), Cond.methodLink RX3 132 yX3_isRate, Cond.static yX3_isRate, Cond.code yX3_isRate cX3_isRate 1 (some .boolean), Cond.constantLong RX3 130 (3000), Cond.methodLink RX3 87 yX3_isBond, Cond.instanceMethod yX3_isBond, Cond.selects RX3 yX3_isBond yX3_isBond, Cond.code yX3_isBond cX3_isBond 2 (some .boolean), Cond.fieldLink RX3 64 "DeliveryBasketModel" "many" "I", Cond.methodLink RX3 173 yX3_meets, Cond.instanceMethod yX3_meets, Cond.selects RX3 yX3_meets yX3_meets, Cond.code yX3_meets cX3_meets 8 (some .boolean)]
def wsX3_meet_r2 : List Cond := [Cond.fieldLink RX3 42 "DeliveryBasketModel" "costs" "[J", Cond.methodLink RX3 135 yX3_price1, Cond.instanceMethod yX3_price1, Cond.selects RX3 yX3_price1 yX3_price1, Cond.code yX3_price1 cX3_price1 4 (some .long), Cond.methodLink RX3 95 yX3_of1, Cond.instanceMethod yX3_of1, Cond.selects RX3 yX3_of1 yX3_of1, Cond.code yX3_of1 cX3_of1 3 (some .int), Cond.fieldLink RX3 7 "DeliveryBasketModel" "bond" "[I", Cond.methodLink RX3 113 yX3_worth, Cond.instanceMethod yX3_worth, Cond.selects RX3 yX3_worth yX3_worth, Cond.code yX3_worth cX3_worth 6 (some .long), Cond.constantLong RX3 105 (10000), Cond.methodLink RX3 110 yX3_flow1, Cond.instanceMethod yX3_flow1, Cond.selects RX3 yX3_flow1 yX3_flow1, Cond.code yX3_flow1 cX3_flow1 5 (some .long), Cond.methodLink RX3 101 yX3_owed, Cond.instanceMethod yX3_owed, Cond.selects RX3 yX3_owed yX3_owed, Cond.code yX3_owed cX3_owed 4 (some .long), Cond.constantLong RX3 99 (100000000)]
def wsX3_meet_r3 : List Cond := [Cond.methodLink RX3 107 yX3_back, Cond.instanceMethod yX3_back, Cond.selects RX3 yX3_back yX3_back, Cond.code yX3_back cX3_back 3 (some .long), Cond.methodLink RX3 164 yX3_invoice, Cond.instanceMethod yX3_invoice, Cond.selects RX3 yX3_invoice yX3_invoice, Cond.code yX3_invoice cX3_invoice 4 (some .long), Cond.methodLink RX3 116 yX3_factor, Cond.instanceMethod yX3_factor, Cond.selects RX3 yX3_factor yX3_factor, Cond.code yX3_factor cX3_factor 2 (some .long), Cond.fieldLink RX3 13 "DeliveryBasketModel" "notional" "I", Cond.methodLink RX3 120 yX3_isEligible, Cond.instanceMethod yX3_isEligible, Cond.selects RX3 yX3_isEligible yX3_isEligible, Cond.code yX3_isEligible cX3_isEligible 2 (some .boolean), Cond.fieldLink RX3 33 "DeliveryBasketModel" "alone" "I", Cond.fieldLink RX3 36 "DeliveryBasketModel" "but" "I", Cond.fieldLink RX3 17 "DeliveryBasketModel" "least" "I", Cond.fieldLink RX3 20 "DeliveryBasketModel" "most" "I"]
def wsX3_meet : List Cond := .code yX3_meet cX3_meet 6 (some .int) :: ((wsX3_meet_r1 ++ (wsX3_meet_r2 ++ wsX3_meet_r3)) ++ wsX30)
def wsX3_cost_r1 : List Cond := [Cond.fieldLink RX3 61 "DeliveryBasketModel" "thrown" "I", Cond.fieldLink RX3 64 "DeliveryBasketModel" "many" "I", Cond.fieldLink RX3 39 "DeliveryBasketModel" "given" "[I", Cond.fieldLink RX3 42 "DeliveryBasketModel" "costs" "[J", Cond.methodLink RX3 170 yX3_isMeeting, Cond.static yX3_isMeeting, Cond.initialized RX3, Cond.code yX3_isMeeting cX3_isMeeting 3 (some .boolean), Cond.constantLong RX3 79 (200), Cond.constantLong RX3 168 (999999999), Cond.methodLink RX3 67 yX3_isIn, Cond.static yX3_isIn, Cond.code yX3_isIn cX3_isIn 6 (some .boolean), Cond.methodLink RX3 132 yX3_isRate, Cond.static yX3_isRate, Cond.code yX3_isRate cX3_isRate 1 (some .boolean), Cond.constantLong RX3 130 (3000), Cond.methodLink RX3 173 yX3_meets, Cond.instanceMethod yX3_meets, Cond.selects RX3 yX3_meets yX3_meets, Cond.code yX3_meets cX3_meets 8 (some .boolean), Cond.methodLink RX3 135 yX3_price1, Cond.instanceMethod yX3_price1, Cond.selects RX3 yX3_price1 yX3_price1]
def wsX3_cost_r2 : List Cond := [Cond.code yX3_price1 cX3_price1 4 (some .long), Cond.methodLink RX3 95 yX3_of1, Cond.instanceMethod yX3_of1, Cond.selects RX3 yX3_of1 yX3_of1, Cond.code yX3_of1 cX3_of1 3 (some .int), Cond.fieldLink RX3 7 "DeliveryBasketModel" "bond" "[I", Cond.methodLink RX3 113 yX3_worth, Cond.instanceMethod yX3_worth, Cond.selects RX3 yX3_worth yX3_worth, Cond.code yX3_worth cX3_worth 6 (some .long), Cond.constantLong RX3 105 (10000), Cond.methodLink RX3 110 yX3_flow1, Cond.instanceMethod yX3_flow1, Cond.selects RX3 yX3_flow1 yX3_flow1, Cond.code yX3_flow1 cX3_flow1 5 (some .long), Cond.methodLink RX3 101 yX3_owed, Cond.instanceMethod yX3_owed, Cond.selects RX3 yX3_owed yX3_owed, Cond.code yX3_owed cX3_owed 4 (some .long), Cond.constantLong RX3 99 (100000000), Cond.methodLink RX3 107 yX3_back, Cond.instanceMethod yX3_back, Cond.selects RX3 yX3_back yX3_back, Cond.code yX3_back cX3_back 3 (some .long)]
def wsX3_cost_r3 : List Cond := [Cond.methodLink RX3 164 yX3_invoice, Cond.instanceMethod yX3_invoice, Cond.selects RX3 yX3_invoice yX3_invoice, Cond.code yX3_invoice cX3_invoice 4 (some .long), Cond.methodLink RX3 116 yX3_factor, Cond.instanceMethod yX3_factor, Cond.selects RX3 yX3_factor yX3_factor, Cond.code yX3_factor cX3_factor 2 (some .long), Cond.fieldLink RX3 13 "DeliveryBasketModel" "notional" "I", Cond.methodLink RX3 120 yX3_isEligible, Cond.instanceMethod yX3_isEligible, Cond.selects RX3 yX3_isEligible yX3_isEligible, Cond.code yX3_isEligible cX3_isEligible 2 (some .boolean), Cond.fieldLink RX3 33 "DeliveryBasketModel" "alone" "I", Cond.fieldLink RX3 36 "DeliveryBasketModel" "but" "I", Cond.fieldLink RX3 17 "DeliveryBasketModel" "least" "I", Cond.fieldLink RX3 20 "DeliveryBasketModel" "most" "I", Cond.methodLink RX3 127 yX3_refuse, Cond.instanceMethod yX3_refuse, Cond.selects RX3 yX3_refuse yX3_refuse, Cond.code yX3_refuse cX3_refuse 1 (some .int)]
def wsX3_cost : List Cond := .code yX3_cost cX3_cost 7 (some .long) :: ((wsX3_cost_r1 ++ (wsX3_cost_r2 ++ wsX3_cost_r3)) ++ wsX30)
def wsX3_tree : List Cond := .code yX3_tree cX3_tree 6 (some .boolean) :: ([.fieldLink RX3 61 "DeliveryBasketModel" "thrown" "I", .constantLong RX3 176 (20), .constantLong RX3 178 (50), .constantLong RX3 180 (-1000000), .constantLong RX3 182 (1000000), .constantLong RX3 168 (999999999), .fieldLink RX3 141 "DeliveryBasketModel" "days" "I", .fieldLink RX3 23 "DeliveryBasketModel" "start" "I", .fieldLink RX3 26 "DeliveryBasketModel" "jump" "I", .fieldLink RX3 144 "DeliveryBasketModel" "carry" "I", .fieldLink RX3 30 "DeliveryBasketModel" "agreed" "I", .methodLink RX3 67 yX3_isIn, .static yX3_isIn, .initialized RX3, .code yX3_isIn cX3_isIn 6 (some .boolean), .methodLink RX3 132 yX3_isRate, .static yX3_isRate, .code yX3_isRate cX3_isRate 1 (some .boolean), .constantLong RX3 130 (3000)] ++ wsX30)
def wsX3_isNode : List Cond := .code yX3_isNode cX3_isNode 3 (some .boolean) :: ([.fieldLink RX3 141 "DeliveryBasketModel" "days" "I", .methodLink RX3 67 yX3_isIn, .static yX3_isIn, .initialized RX3, .code yX3_isIn cX3_isIn 6 (some .boolean)] ++ wsX30)
def wsX3_rate1 : List Cond := .code yX3_rate1 cX3_rate1 4 (some .int) :: ([.fieldLink RX3 23 "DeliveryBasketModel" "start" "I", .fieldLink RX3 26 "DeliveryBasketModel" "jump" "I"] ++ wsX30)
def wsX3_rate : List Cond := .code yX3_rate cX3_rate 3 (some .int) :: ([.fieldLink RX3 61 "DeliveryBasketModel" "thrown" "I", .methodLink RX3 184 yX3_isNode, .instanceMethod yX3_isNode, .selects RX3 yX3_isNode yX3_isNode, .initialized RX3, .code yX3_isNode cX3_isNode 3 (some .boolean), .fieldLink RX3 141 "DeliveryBasketModel" "days" "I", .methodLink RX3 67 yX3_isIn, .static yX3_isIn, .code yX3_isIn cX3_isIn 6 (some .boolean), .methodLink RX3 188 yX3_rate1, .instanceMethod yX3_rate1, .selects RX3 yX3_rate1 yX3_rate1, .code yX3_rate1 cX3_rate1 4 (some .int), .fieldLink RX3 23 "DeliveryBasketModel" "start" "I", .fieldLink RX3 26 "DeliveryBasketModel" "jump" "I"] ++ wsX30)
def wsX3_laysNow_r1 : List Cond := [Cond.fieldLink RX3 55 "DeliveryBasketModel" "bonds" "[I", Cond.fieldLink RX3 64 "DeliveryBasketModel" "many" "I", Cond.fieldLink RX3 30 "DeliveryBasketModel" "agreed" "I", Cond.fieldLink RX3 49 "DeliveryBasketModel" "nows" "[J", Cond.methodLink RX3 120 yX3_isEligible, Cond.instanceMethod yX3_isEligible, Cond.selects RX3 yX3_isEligible yX3_isEligible, Cond.initialized RX3, Cond.code yX3_isEligible cX3_isEligible 2 (some .boolean), Cond.fieldLink RX3 33 "DeliveryBasketModel" "alone" "I", Cond.fieldLink RX3 36 "DeliveryBasketModel" "but" "I", Cond.fieldLink RX3 17 "DeliveryBasketModel" "least" "I", Cond.fieldLink RX3 20 "DeliveryBasketModel" "most" "I", Cond.methodLink RX3 95 yX3_of1, Cond.instanceMethod yX3_of1, Cond.selects RX3 yX3_of1 yX3_of1, Cond.code yX3_of1 cX3_of1 3 (some .int), Cond.fieldLink RX3 7 "DeliveryBasketModel" "bond" "[I", Cond.methodLink RX3 67 yX3_isIn, Cond.static yX3_isIn, Cond.code yX3_isIn cX3_isIn 6 (some .boolean), Cond.methodLink RX3 116 yX3_factor, Cond.instanceMethod yX3_factor, Cond.selects RX3 yX3_factor yX3_factor]
def wsX3_laysNow_r2 : List Cond := [Cond.code yX3_factor cX3_factor 2 (some .long), Cond.fieldLink RX3 13 "DeliveryBasketModel" "notional" "I", Cond.constantLong RX3 105 (10000), Cond.methodLink RX3 113 yX3_worth, Cond.instanceMethod yX3_worth, Cond.selects RX3 yX3_worth yX3_worth, Cond.code yX3_worth cX3_worth 6 (some .long), Cond.methodLink RX3 110 yX3_flow1, Cond.instanceMethod yX3_flow1, Cond.selects RX3 yX3_flow1 yX3_flow1, Cond.code yX3_flow1 cX3_flow1 5 (some .long), Cond.methodLink RX3 101 yX3_owed, Cond.instanceMethod yX3_owed, Cond.selects RX3 yX3_owed yX3_owed, Cond.code yX3_owed cX3_owed 4 (some .long), Cond.constantLong RX3 99 (100000000), Cond.methodLink RX3 107 yX3_back, Cond.instanceMethod yX3_back, Cond.selects RX3 yX3_back yX3_back, Cond.code yX3_back cX3_back 3 (some .long), Cond.methodLink RX3 164 yX3_invoice, Cond.instanceMethod yX3_invoice, Cond.selects RX3 yX3_invoice yX3_invoice, Cond.code yX3_invoice cX3_invoice 4 (some .long)]
def wsX3_laysNow_r3 : List Cond := [Cond.methodLink RX3 188 yX3_rate1, Cond.instanceMethod yX3_rate1, Cond.selects RX3 yX3_rate1 yX3_rate1, Cond.code yX3_rate1 cX3_rate1 4 (some .int), Cond.fieldLink RX3 23 "DeliveryBasketModel" "start" "I", Cond.fieldLink RX3 26 "DeliveryBasketModel" "jump" "I", Cond.methodLink RX3 135 yX3_price1, Cond.instanceMethod yX3_price1, Cond.selects RX3 yX3_price1 yX3_price1, Cond.code yX3_price1 cX3_price1 4 (some .long)]
def wsX3_laysNow : List Cond := .code yX3_laysNow cX3_laysNow 7 none :: ((wsX3_laysNow_r1 ++ (wsX3_laysNow_r2 ++ wsX3_laysNow_r3)) ++ wsX30)
def wsX3_laysTree_r1 : List Cond := [Cond.fieldLink RX3 141 "DeliveryBasketModel" "days" "I", Cond.fieldLink RX3 52 "DeliveryBasketModel" "waits" "[J", Cond.fieldLink RX3 46 "DeliveryBasketModel" "value" "[J", Cond.constantLong RX3 91 (2), Cond.fieldLink RX3 144 "DeliveryBasketModel" "carry" "I", Cond.fieldLink RX3 49 "DeliveryBasketModel" "nows" "[J", Cond.methodLink RX3 191 yX3_laysNow, Cond.instanceMethod yX3_laysNow, Cond.selects RX3 yX3_laysNow yX3_laysNow, Cond.initialized RX3, Cond.code yX3_laysNow cX3_laysNow 7 none, Cond.fieldLink RX3 55 "DeliveryBasketModel" "bonds" "[I", Cond.fieldLink RX3 64 "DeliveryBasketModel" "many" "I", Cond.fieldLink RX3 30 "DeliveryBasketModel" "agreed" "I", Cond.methodLink RX3 120 yX3_isEligible, Cond.instanceMethod yX3_isEligible, Cond.selects RX3 yX3_isEligible yX3_isEligible, Cond.code yX3_isEligible cX3_isEligible 2 (some .boolean), Cond.fieldLink RX3 33 "DeliveryBasketModel" "alone" "I", Cond.fieldLink RX3 36 "DeliveryBasketModel" "but" "I", Cond.fieldLink RX3 17 "DeliveryBasketModel" "least" "I", Cond.fieldLink RX3 20 "DeliveryBasketModel" "most" "I", Cond.methodLink RX3 95 yX3_of1, Cond.instanceMethod yX3_of1]
def wsX3_laysTree_r2 : List Cond := [Cond.selects RX3 yX3_of1 yX3_of1, Cond.code yX3_of1 cX3_of1 3 (some .int), Cond.fieldLink RX3 7 "DeliveryBasketModel" "bond" "[I", Cond.methodLink RX3 67 yX3_isIn, Cond.static yX3_isIn, Cond.code yX3_isIn cX3_isIn 6 (some .boolean), Cond.methodLink RX3 116 yX3_factor, Cond.instanceMethod yX3_factor, Cond.selects RX3 yX3_factor yX3_factor, Cond.code yX3_factor cX3_factor 2 (some .long), Cond.fieldLink RX3 13 "DeliveryBasketModel" "notional" "I", Cond.constantLong RX3 105 (10000), Cond.methodLink RX3 113 yX3_worth, Cond.instanceMethod yX3_worth, Cond.selects RX3 yX3_worth yX3_worth, Cond.code yX3_worth cX3_worth 6 (some .long), Cond.methodLink RX3 110 yX3_flow1, Cond.instanceMethod yX3_flow1, Cond.selects RX3 yX3_flow1 yX3_flow1, Cond.code yX3_flow1 cX3_flow1 5 (some .long), Cond.methodLink RX3 101 yX3_owed, Cond.instanceMethod yX3_owed, Cond.selects RX3 yX3_owed yX3_owed, Cond.code yX3_owed cX3_owed 4 (some .long)]
def wsX3_laysTree_r3 : List Cond := [Cond.constantLong RX3 99 (100000000), Cond.methodLink RX3 107 yX3_back, Cond.instanceMethod yX3_back, Cond.selects RX3 yX3_back yX3_back, Cond.code yX3_back cX3_back 3 (some .long), Cond.methodLink RX3 164 yX3_invoice, Cond.instanceMethod yX3_invoice, Cond.selects RX3 yX3_invoice yX3_invoice, Cond.code yX3_invoice cX3_invoice 4 (some .long), Cond.methodLink RX3 188 yX3_rate1, Cond.instanceMethod yX3_rate1, Cond.selects RX3 yX3_rate1 yX3_rate1, Cond.code yX3_rate1 cX3_rate1 4 (some .int), Cond.fieldLink RX3 23 "DeliveryBasketModel" "start" "I", Cond.fieldLink RX3 26 "DeliveryBasketModel" "jump" "I", Cond.methodLink RX3 135 yX3_price1, Cond.instanceMethod yX3_price1, Cond.selects RX3 yX3_price1 yX3_price1, Cond.code yX3_price1 cX3_price1 4 (some .long), Cond.methodLink RX3 195 yX3_down, Cond.static yX3_down, Cond.code yX3_down cX3_down 6 (some .long)]
def wsX3_laysTree : List Cond := .code yX3_laysTree cX3_laysTree 6 none :: ((wsX3_laysTree_r1 ++ (wsX3_laysTree_r2 ++ wsX3_laysTree_r3)) ++ wsX30)
def wsX3_delivers : List Cond := .code yX3_delivers cX3_delivers 3 (some .boolean) :: ([.fieldLink RX3 141 "DeliveryBasketModel" "days" "I", .fieldLink RX3 49 "DeliveryBasketModel" "nows" "[J", .fieldLink RX3 52 "DeliveryBasketModel" "waits" "[J"] ++ wsX30)
def wsX3_value_r1 : List Cond := [Cond.fieldLink RX3 61 "DeliveryBasketModel" "thrown" "I", Cond.fieldLink RX3 46 "DeliveryBasketModel" "value" "[J", Cond.methodLink RX3 184 yX3_isNode, Cond.instanceMethod yX3_isNode, Cond.selects RX3 yX3_isNode yX3_isNode, Cond.initialized RX3, Cond.code yX3_isNode cX3_isNode 3 (some .boolean), Cond.fieldLink RX3 141 "DeliveryBasketModel" "days" "I", Cond.methodLink RX3 67 yX3_isIn, Cond.static yX3_isIn, Cond.code yX3_isIn cX3_isIn 6 (some .boolean), Cond.methodLink RX3 155 yX3_isAny, Cond.instanceMethod yX3_isAny, Cond.selects RX3 yX3_isAny yX3_isAny, Cond.code yX3_isAny cX3_isAny 1 (some .boolean), Cond.methodLink RX3 123 yX3_eligible, Cond.instanceMethod yX3_eligible, Cond.selects RX3 yX3_eligible yX3_eligible, Cond.code yX3_eligible cX3_eligible 3 (some .int), Cond.fieldLink RX3 64 "DeliveryBasketModel" "many" "I", Cond.methodLink RX3 120 yX3_isEligible, Cond.instanceMethod yX3_isEligible, Cond.selects RX3 yX3_isEligible yX3_isEligible, Cond.code yX3_isEligible cX3_isEligible 2 (some .boolean)]
def wsX3_value_r2 : List Cond := [Cond.fieldLink RX3 33 "DeliveryBasketModel" "alone" "I", Cond.fieldLink RX3 36 "DeliveryBasketModel" "but" "I", Cond.fieldLink RX3 17 "DeliveryBasketModel" "least" "I", Cond.fieldLink RX3 20 "DeliveryBasketModel" "most" "I", Cond.methodLink RX3 95 yX3_of1, Cond.instanceMethod yX3_of1, Cond.selects RX3 yX3_of1 yX3_of1, Cond.code yX3_of1 cX3_of1 3 (some .int), Cond.fieldLink RX3 7 "DeliveryBasketModel" "bond" "[I", Cond.methodLink RX3 116 yX3_factor, Cond.instanceMethod yX3_factor, Cond.selects RX3 yX3_factor yX3_factor, Cond.code yX3_factor cX3_factor 2 (some .long), Cond.fieldLink RX3 13 "DeliveryBasketModel" "notional" "I", Cond.constantLong RX3 105 (10000), Cond.methodLink RX3 113 yX3_worth, Cond.instanceMethod yX3_worth, Cond.selects RX3 yX3_worth yX3_worth, Cond.code yX3_worth cX3_worth 6 (some .long), Cond.methodLink RX3 110 yX3_flow1, Cond.instanceMethod yX3_flow1, Cond.selects RX3 yX3_flow1 yX3_flow1, Cond.code yX3_flow1 cX3_flow1 5 (some .long), Cond.methodLink RX3 101 yX3_owed]
def wsX3_value_r3 : List Cond := [Cond.instanceMethod yX3_owed, Cond.selects RX3 yX3_owed yX3_owed, Cond.code yX3_owed cX3_owed 4 (some .long), Cond.constantLong RX3 99 (100000000), Cond.methodLink RX3 107 yX3_back, Cond.instanceMethod yX3_back, Cond.selects RX3 yX3_back yX3_back, Cond.code yX3_back cX3_back 3 (some .long), Cond.methodLink RX3 127 yX3_refuse, Cond.instanceMethod yX3_refuse, Cond.selects RX3 yX3_refuse yX3_refuse, Cond.code yX3_refuse cX3_refuse 1 (some .int), Cond.methodLink RX3 199 yX3_laysTree, Cond.instanceMethod yX3_laysTree, Cond.selects RX3 yX3_laysTree yX3_laysTree, Cond.code yX3_laysTree cX3_laysTree 6 none, Cond.fieldLink RX3 52 "DeliveryBasketModel" "waits" "[J", Cond.constantLong RX3 91 (2), Cond.fieldLink RX3 144 "DeliveryBasketModel" "carry" "I", Cond.fieldLink RX3 49 "DeliveryBasketModel" "nows" "[J", Cond.methodLink RX3 191 yX3_laysNow, Cond.instanceMethod yX3_laysNow, Cond.selects RX3 yX3_laysNow yX3_laysNow, Cond.code yX3_laysNow cX3_laysNow 7 none]
def wsX3_value_r4 : List Cond := [Cond.fieldLink RX3 55 "DeliveryBasketModel" "bonds" "[I", Cond.fieldLink RX3 30 "DeliveryBasketModel" "agreed" "I", Cond.methodLink RX3 164 yX3_invoice, Cond.instanceMethod yX3_invoice, Cond.selects RX3 yX3_invoice yX3_invoice, Cond.code yX3_invoice cX3_invoice 4 (some .long), Cond.methodLink RX3 188 yX3_rate1, Cond.instanceMethod yX3_rate1, Cond.selects RX3 yX3_rate1 yX3_rate1, Cond.code yX3_rate1 cX3_rate1 4 (some .int), Cond.fieldLink RX3 23 "DeliveryBasketModel" "start" "I", Cond.fieldLink RX3 26 "DeliveryBasketModel" "jump" "I", Cond.methodLink RX3 135 yX3_price1, Cond.instanceMethod yX3_price1, Cond.selects RX3 yX3_price1 yX3_price1, Cond.code yX3_price1 cX3_price1 4 (some .long), Cond.methodLink RX3 195 yX3_down, Cond.static yX3_down, Cond.code yX3_down cX3_down 6 (some .long)]
def wsX3_value : List Cond := .code yX3_value cX3_value 3 (some .long) :: ((wsX3_value_r1 ++ (wsX3_value_r2 ++ (wsX3_value_r3 ++ wsX3_value_r4))) ++ wsX30)
def wsX3_act_r1 : List Cond := [Cond.fieldLink RX3 61 "DeliveryBasketModel" "thrown" "I", Cond.fieldLink RX3 55 "DeliveryBasketModel" "bonds" "[I", Cond.methodLink RX3 184 yX3_isNode, Cond.instanceMethod yX3_isNode, Cond.selects RX3 yX3_isNode yX3_isNode, Cond.initialized RX3, Cond.code yX3_isNode cX3_isNode 3 (some .boolean), Cond.fieldLink RX3 141 "DeliveryBasketModel" "days" "I", Cond.methodLink RX3 67 yX3_isIn, Cond.static yX3_isIn, Cond.code yX3_isIn cX3_isIn 6 (some .boolean), Cond.methodLink RX3 155 yX3_isAny, Cond.instanceMethod yX3_isAny, Cond.selects RX3 yX3_isAny yX3_isAny, Cond.code yX3_isAny cX3_isAny 1 (some .boolean), Cond.methodLink RX3 123 yX3_eligible, Cond.instanceMethod yX3_eligible, Cond.selects RX3 yX3_eligible yX3_eligible, Cond.code yX3_eligible cX3_eligible 3 (some .int), Cond.fieldLink RX3 64 "DeliveryBasketModel" "many" "I", Cond.methodLink RX3 120 yX3_isEligible, Cond.instanceMethod yX3_isEligible, Cond.selects RX3 yX3_isEligible yX3_isEligible, Cond.code yX3_isEligible cX3_isEligible 2 (some .boolean)]
def wsX3_act_r2 : List Cond := [Cond.fieldLink RX3 33 "DeliveryBasketModel" "alone" "I", Cond.fieldLink RX3 36 "DeliveryBasketModel" "but" "I", Cond.fieldLink RX3 17 "DeliveryBasketModel" "least" "I", Cond.fieldLink RX3 20 "DeliveryBasketModel" "most" "I", Cond.methodLink RX3 95 yX3_of1, Cond.instanceMethod yX3_of1, Cond.selects RX3 yX3_of1 yX3_of1, Cond.code yX3_of1 cX3_of1 3 (some .int), Cond.fieldLink RX3 7 "DeliveryBasketModel" "bond" "[I", Cond.methodLink RX3 116 yX3_factor, Cond.instanceMethod yX3_factor, Cond.selects RX3 yX3_factor yX3_factor, Cond.code yX3_factor cX3_factor 2 (some .long), Cond.fieldLink RX3 13 "DeliveryBasketModel" "notional" "I", Cond.constantLong RX3 105 (10000), Cond.methodLink RX3 113 yX3_worth, Cond.instanceMethod yX3_worth, Cond.selects RX3 yX3_worth yX3_worth, Cond.code yX3_worth cX3_worth 6 (some .long), Cond.methodLink RX3 110 yX3_flow1, Cond.instanceMethod yX3_flow1, Cond.selects RX3 yX3_flow1 yX3_flow1, Cond.code yX3_flow1 cX3_flow1 5 (some .long), Cond.methodLink RX3 101 yX3_owed]
def wsX3_act_r3 : List Cond := [Cond.instanceMethod yX3_owed, Cond.selects RX3 yX3_owed yX3_owed, Cond.code yX3_owed cX3_owed 4 (some .long), Cond.constantLong RX3 99 (100000000), Cond.methodLink RX3 107 yX3_back, Cond.instanceMethod yX3_back, Cond.selects RX3 yX3_back yX3_back, Cond.code yX3_back cX3_back 3 (some .long), Cond.methodLink RX3 199 yX3_laysTree, Cond.instanceMethod yX3_laysTree, Cond.selects RX3 yX3_laysTree yX3_laysTree, Cond.code yX3_laysTree cX3_laysTree 6 none, Cond.fieldLink RX3 52 "DeliveryBasketModel" "waits" "[J", Cond.fieldLink RX3 46 "DeliveryBasketModel" "value" "[J", Cond.constantLong RX3 91 (2), Cond.fieldLink RX3 144 "DeliveryBasketModel" "carry" "I", Cond.fieldLink RX3 49 "DeliveryBasketModel" "nows" "[J", Cond.methodLink RX3 191 yX3_laysNow, Cond.instanceMethod yX3_laysNow, Cond.selects RX3 yX3_laysNow yX3_laysNow, Cond.code yX3_laysNow cX3_laysNow 7 none, Cond.fieldLink RX3 30 "DeliveryBasketModel" "agreed" "I", Cond.methodLink RX3 164 yX3_invoice, Cond.instanceMethod yX3_invoice]
def wsX3_act_r4 : List Cond := [Cond.selects RX3 yX3_invoice yX3_invoice, Cond.code yX3_invoice cX3_invoice 4 (some .long), Cond.methodLink RX3 188 yX3_rate1, Cond.instanceMethod yX3_rate1, Cond.selects RX3 yX3_rate1 yX3_rate1, Cond.code yX3_rate1 cX3_rate1 4 (some .int), Cond.fieldLink RX3 23 "DeliveryBasketModel" "start" "I", Cond.fieldLink RX3 26 "DeliveryBasketModel" "jump" "I", Cond.methodLink RX3 135 yX3_price1, Cond.instanceMethod yX3_price1, Cond.selects RX3 yX3_price1 yX3_price1, Cond.code yX3_price1 cX3_price1 4 (some .long), Cond.methodLink RX3 195 yX3_down, Cond.static yX3_down, Cond.code yX3_down cX3_down 6 (some .long), Cond.methodLink RX3 203 yX3_delivers, Cond.instanceMethod yX3_delivers, Cond.selects RX3 yX3_delivers yX3_delivers, Cond.code yX3_delivers cX3_delivers 3 (some .boolean)]
def wsX3_act : List Cond := .code yX3_act cX3_act 3 (some .int) :: ((wsX3_act_r1 ++ (wsX3_act_r2 ++ (wsX3_act_r3 ++ wsX3_act_r4))) ++ wsX30)
def wsX3_path_r1 : List Cond := [Cond.fieldLink RX3 61 "DeliveryBasketModel" "thrown" "I", Cond.fieldLink RX3 141 "DeliveryBasketModel" "days" "I", Cond.fieldLink RX3 55 "DeliveryBasketModel" "bonds" "[I", Cond.methodLink RX3 67 yX3_isIn, Cond.static yX3_isIn, Cond.initialized RX3, Cond.code yX3_isIn cX3_isIn 6 (some .boolean), Cond.methodLink RX3 155 yX3_isAny, Cond.instanceMethod yX3_isAny, Cond.selects RX3 yX3_isAny yX3_isAny, Cond.code yX3_isAny cX3_isAny 1 (some .boolean), Cond.methodLink RX3 123 yX3_eligible, Cond.instanceMethod yX3_eligible, Cond.selects RX3 yX3_eligible yX3_eligible, Cond.code yX3_eligible cX3_eligible 3 (some .int), Cond.fieldLink RX3 64 "DeliveryBasketModel" "many" "I", Cond.methodLink RX3 120 yX3_isEligible, Cond.instanceMethod yX3_isEligible, Cond.selects RX3 yX3_isEligible yX3_isEligible, Cond.code yX3_isEligible cX3_isEligible 2 (some .boolean), Cond.fieldLink RX3 33 "DeliveryBasketModel" "alone" "I", Cond.fieldLink RX3 36 "DeliveryBasketModel" "but" "I", Cond.fieldLink RX3 17 "DeliveryBasketModel" "least" "I", Cond.fieldLink RX3 20 "DeliveryBasketModel" "most" "I"]
def wsX3_path_r2 : List Cond := [Cond.methodLink RX3 95 yX3_of1, Cond.instanceMethod yX3_of1, Cond.selects RX3 yX3_of1 yX3_of1, Cond.code yX3_of1 cX3_of1 3 (some .int), Cond.fieldLink RX3 7 "DeliveryBasketModel" "bond" "[I", Cond.methodLink RX3 116 yX3_factor, Cond.instanceMethod yX3_factor, Cond.selects RX3 yX3_factor yX3_factor, Cond.code yX3_factor cX3_factor 2 (some .long), Cond.fieldLink RX3 13 "DeliveryBasketModel" "notional" "I", Cond.constantLong RX3 105 (10000), Cond.methodLink RX3 113 yX3_worth, Cond.instanceMethod yX3_worth, Cond.selects RX3 yX3_worth yX3_worth, Cond.code yX3_worth cX3_worth 6 (some .long), Cond.methodLink RX3 110 yX3_flow1, Cond.instanceMethod yX3_flow1, Cond.selects RX3 yX3_flow1 yX3_flow1, Cond.code yX3_flow1 cX3_flow1 5 (some .long), Cond.methodLink RX3 101 yX3_owed, Cond.instanceMethod yX3_owed, Cond.selects RX3 yX3_owed yX3_owed, Cond.code yX3_owed cX3_owed 4 (some .long), Cond.constantLong RX3 99 (100000000)]
def wsX3_path_r3 : List Cond := [Cond.methodLink RX3 107 yX3_back, Cond.instanceMethod yX3_back, Cond.selects RX3 yX3_back yX3_back, Cond.code yX3_back cX3_back 3 (some .long), Cond.methodLink RX3 199 yX3_laysTree, Cond.instanceMethod yX3_laysTree, Cond.selects RX3 yX3_laysTree yX3_laysTree, Cond.code yX3_laysTree cX3_laysTree 6 none, Cond.fieldLink RX3 52 "DeliveryBasketModel" "waits" "[J", Cond.fieldLink RX3 46 "DeliveryBasketModel" "value" "[J", Cond.constantLong RX3 91 (2), Cond.fieldLink RX3 144 "DeliveryBasketModel" "carry" "I", Cond.fieldLink RX3 49 "DeliveryBasketModel" "nows" "[J", Cond.methodLink RX3 191 yX3_laysNow, Cond.instanceMethod yX3_laysNow, Cond.selects RX3 yX3_laysNow yX3_laysNow, Cond.code yX3_laysNow cX3_laysNow 7 none, Cond.fieldLink RX3 30 "DeliveryBasketModel" "agreed" "I", Cond.methodLink RX3 164 yX3_invoice, Cond.instanceMethod yX3_invoice, Cond.selects RX3 yX3_invoice yX3_invoice, Cond.code yX3_invoice cX3_invoice 4 (some .long), Cond.methodLink RX3 188 yX3_rate1, Cond.instanceMethod yX3_rate1]
def wsX3_path_r4 : List Cond := [Cond.selects RX3 yX3_rate1 yX3_rate1, Cond.code yX3_rate1 cX3_rate1 4 (some .int), Cond.fieldLink RX3 23 "DeliveryBasketModel" "start" "I", Cond.fieldLink RX3 26 "DeliveryBasketModel" "jump" "I", Cond.methodLink RX3 135 yX3_price1, Cond.instanceMethod yX3_price1, Cond.selects RX3 yX3_price1 yX3_price1, Cond.code yX3_price1 cX3_price1 4 (some .long), Cond.methodLink RX3 195 yX3_down, Cond.static yX3_down, Cond.code yX3_down cX3_down 6 (some .long), Cond.methodLink RX3 203 yX3_delivers, Cond.instanceMethod yX3_delivers, Cond.selects RX3 yX3_delivers yX3_delivers, Cond.code yX3_delivers cX3_delivers 3 (some .boolean)]
def wsX3_path : List Cond := .code yX3_path cX3_path 5 (some .int) :: ((wsX3_path_r1 ++ (wsX3_path_r2 ++ (wsX3_path_r3 ++ wsX3_path_r4))) ++ wsX30)
def wsX3_often_r1 : List Cond := [Cond.fieldLink RX3 61 "DeliveryBasketModel" "thrown" "I", Cond.fieldLink RX3 141 "DeliveryBasketModel" "days" "I", Cond.fieldLink RX3 58 "DeliveryBasketModel" "ways" "[I", Cond.methodLink RX3 67 yX3_isIn, Cond.static yX3_isIn, Cond.initialized RX3, Cond.code yX3_isIn cX3_isIn 6 (some .boolean), Cond.methodLink RX3 155 yX3_isAny, Cond.instanceMethod yX3_isAny, Cond.selects RX3 yX3_isAny yX3_isAny, Cond.code yX3_isAny cX3_isAny 1 (some .boolean), Cond.methodLink RX3 123 yX3_eligible, Cond.instanceMethod yX3_eligible, Cond.selects RX3 yX3_eligible yX3_eligible, Cond.code yX3_eligible cX3_eligible 3 (some .int), Cond.fieldLink RX3 64 "DeliveryBasketModel" "many" "I", Cond.methodLink RX3 120 yX3_isEligible, Cond.instanceMethod yX3_isEligible, Cond.selects RX3 yX3_isEligible yX3_isEligible, Cond.code yX3_isEligible cX3_isEligible 2 (some .boolean), Cond.fieldLink RX3 33 "DeliveryBasketModel" "alone" "I", Cond.fieldLink RX3 36 "DeliveryBasketModel" "but" "I", Cond.fieldLink RX3 17 "DeliveryBasketModel" "least" "I", Cond.fieldLink RX3 20 "DeliveryBasketModel" "most" "I"]
def wsX3_often_r2 : List Cond := [Cond.methodLink RX3 95 yX3_of1, Cond.instanceMethod yX3_of1, Cond.selects RX3 yX3_of1 yX3_of1, Cond.code yX3_of1 cX3_of1 3 (some .int), Cond.fieldLink RX3 7 "DeliveryBasketModel" "bond" "[I", Cond.methodLink RX3 116 yX3_factor, Cond.instanceMethod yX3_factor, Cond.selects RX3 yX3_factor yX3_factor, Cond.code yX3_factor cX3_factor 2 (some .long), Cond.fieldLink RX3 13 "DeliveryBasketModel" "notional" "I", Cond.constantLong RX3 105 (10000), Cond.methodLink RX3 113 yX3_worth, Cond.instanceMethod yX3_worth, Cond.selects RX3 yX3_worth yX3_worth, Cond.code yX3_worth cX3_worth 6 (some .long), Cond.methodLink RX3 110 yX3_flow1, Cond.instanceMethod yX3_flow1, Cond.selects RX3 yX3_flow1 yX3_flow1, Cond.code yX3_flow1 cX3_flow1 5 (some .long), Cond.methodLink RX3 101 yX3_owed, Cond.instanceMethod yX3_owed, Cond.selects RX3 yX3_owed yX3_owed, Cond.code yX3_owed cX3_owed 4 (some .long), Cond.constantLong RX3 99 (100000000)]
def wsX3_often_r3 : List Cond := [Cond.methodLink RX3 107 yX3_back, Cond.instanceMethod yX3_back, Cond.selects RX3 yX3_back yX3_back, Cond.code yX3_back cX3_back 3 (some .long), Cond.methodLink RX3 199 yX3_laysTree, Cond.instanceMethod yX3_laysTree, Cond.selects RX3 yX3_laysTree yX3_laysTree, Cond.code yX3_laysTree cX3_laysTree 6 none, Cond.fieldLink RX3 52 "DeliveryBasketModel" "waits" "[J", Cond.fieldLink RX3 46 "DeliveryBasketModel" "value" "[J", Cond.constantLong RX3 91 (2), Cond.fieldLink RX3 144 "DeliveryBasketModel" "carry" "I", Cond.fieldLink RX3 49 "DeliveryBasketModel" "nows" "[J", Cond.methodLink RX3 191 yX3_laysNow, Cond.instanceMethod yX3_laysNow, Cond.selects RX3 yX3_laysNow yX3_laysNow, Cond.code yX3_laysNow cX3_laysNow 7 none, Cond.fieldLink RX3 55 "DeliveryBasketModel" "bonds" "[I", Cond.fieldLink RX3 30 "DeliveryBasketModel" "agreed" "I", Cond.methodLink RX3 164 yX3_invoice, Cond.instanceMethod yX3_invoice, Cond.selects RX3 yX3_invoice yX3_invoice, Cond.code yX3_invoice cX3_invoice 4 (some .long), Cond.methodLink RX3 188 yX3_rate1]
def wsX3_often_r4 : List Cond := [Cond.instanceMethod yX3_rate1, Cond.selects RX3 yX3_rate1 yX3_rate1, Cond.code yX3_rate1 cX3_rate1 4 (some .int), Cond.fieldLink RX3 23 "DeliveryBasketModel" "start" "I", Cond.fieldLink RX3 26 "DeliveryBasketModel" "jump" "I", Cond.methodLink RX3 135 yX3_price1, Cond.instanceMethod yX3_price1, Cond.selects RX3 yX3_price1 yX3_price1, Cond.code yX3_price1 cX3_price1 4 (some .long), Cond.methodLink RX3 195 yX3_down, Cond.static yX3_down, Cond.code yX3_down cX3_down 6 (some .long), Cond.methodLink RX3 203 yX3_delivers, Cond.instanceMethod yX3_delivers, Cond.selects RX3 yX3_delivers yX3_delivers, Cond.code yX3_delivers cX3_delivers 3 (some .boolean)]
def wsX3_often : List Cond := .code yX3_often cX3_often 6 (some .int) :: ((wsX3_often_r1 ++ (wsX3_often_r2 ++ (wsX3_often_r3 ++ wsX3_often_r4))) ++ wsX30)
def wsX3_fixed_r1 : List Cond := [Cond.fieldLink RX3 61 "DeliveryBasketModel" "thrown" "I", Cond.fieldLink RX3 141 "DeliveryBasketModel" "days" "I", Cond.fieldLink RX3 46 "DeliveryBasketModel" "value" "[J", Cond.methodLink RX3 67 yX3_isIn, Cond.static yX3_isIn, Cond.initialized RX3, Cond.code yX3_isIn cX3_isIn 6 (some .boolean), Cond.methodLink RX3 155 yX3_isAny, Cond.instanceMethod yX3_isAny, Cond.selects RX3 yX3_isAny yX3_isAny, Cond.code yX3_isAny cX3_isAny 1 (some .boolean), Cond.methodLink RX3 123 yX3_eligible, Cond.instanceMethod yX3_eligible, Cond.selects RX3 yX3_eligible yX3_eligible, Cond.code yX3_eligible cX3_eligible 3 (some .int), Cond.fieldLink RX3 64 "DeliveryBasketModel" "many" "I", Cond.methodLink RX3 120 yX3_isEligible, Cond.instanceMethod yX3_isEligible, Cond.selects RX3 yX3_isEligible yX3_isEligible, Cond.code yX3_isEligible cX3_isEligible 2 (some .boolean), Cond.fieldLink RX3 33 "DeliveryBasketModel" "alone" "I", Cond.fieldLink RX3 36 "DeliveryBasketModel" "but" "I", Cond.fieldLink RX3 17 "DeliveryBasketModel" "least" "I", Cond.fieldLink RX3 20 "DeliveryBasketModel" "most" "I"]
def wsX3_fixed_r2 : List Cond := [Cond.methodLink RX3 95 yX3_of1, Cond.instanceMethod yX3_of1, Cond.selects RX3 yX3_of1 yX3_of1, Cond.code yX3_of1 cX3_of1 3 (some .int), Cond.fieldLink RX3 7 "DeliveryBasketModel" "bond" "[I", Cond.methodLink RX3 116 yX3_factor, Cond.instanceMethod yX3_factor, Cond.selects RX3 yX3_factor yX3_factor, Cond.code yX3_factor cX3_factor 2 (some .long), Cond.fieldLink RX3 13 "DeliveryBasketModel" "notional" "I", Cond.constantLong RX3 105 (10000), Cond.methodLink RX3 113 yX3_worth, Cond.instanceMethod yX3_worth, Cond.selects RX3 yX3_worth yX3_worth, Cond.code yX3_worth cX3_worth 6 (some .long), Cond.methodLink RX3 110 yX3_flow1, Cond.instanceMethod yX3_flow1, Cond.selects RX3 yX3_flow1 yX3_flow1, Cond.code yX3_flow1 cX3_flow1 5 (some .long), Cond.methodLink RX3 101 yX3_owed, Cond.instanceMethod yX3_owed, Cond.selects RX3 yX3_owed yX3_owed, Cond.code yX3_owed cX3_owed 4 (some .long), Cond.constantLong RX3 99 (100000000)]
def wsX3_fixed_r3 : List Cond := [Cond.methodLink RX3 107 yX3_back, Cond.instanceMethod yX3_back, Cond.selects RX3 yX3_back yX3_back, Cond.code yX3_back cX3_back 3 (some .long), Cond.methodLink RX3 127 yX3_refuse, Cond.instanceMethod yX3_refuse, Cond.selects RX3 yX3_refuse yX3_refuse, Cond.code yX3_refuse cX3_refuse 1 (some .int), Cond.methodLink RX3 199 yX3_laysTree, Cond.instanceMethod yX3_laysTree, Cond.selects RX3 yX3_laysTree yX3_laysTree, Cond.code yX3_laysTree cX3_laysTree 6 none, Cond.fieldLink RX3 52 "DeliveryBasketModel" "waits" "[J", Cond.constantLong RX3 91 (2), Cond.fieldLink RX3 144 "DeliveryBasketModel" "carry" "I", Cond.fieldLink RX3 49 "DeliveryBasketModel" "nows" "[J", Cond.methodLink RX3 191 yX3_laysNow, Cond.instanceMethod yX3_laysNow, Cond.selects RX3 yX3_laysNow yX3_laysNow, Cond.code yX3_laysNow cX3_laysNow 7 none, Cond.fieldLink RX3 55 "DeliveryBasketModel" "bonds" "[I", Cond.fieldLink RX3 30 "DeliveryBasketModel" "agreed" "I", Cond.methodLink RX3 164 yX3_invoice, Cond.instanceMethod yX3_invoice]
def wsX3_fixed_r4 : List Cond := [Cond.selects RX3 yX3_invoice yX3_invoice, Cond.code yX3_invoice cX3_invoice 4 (some .long), Cond.methodLink RX3 188 yX3_rate1, Cond.instanceMethod yX3_rate1, Cond.selects RX3 yX3_rate1 yX3_rate1, Cond.code yX3_rate1 cX3_rate1 4 (some .int), Cond.fieldLink RX3 23 "DeliveryBasketModel" "start" "I", Cond.fieldLink RX3 26 "DeliveryBasketModel" "jump" "I", Cond.methodLink RX3 135 yX3_price1, Cond.instanceMethod yX3_price1, Cond.selects RX3 yX3_price1 yX3_price1, Cond.code yX3_price1 cX3_price1 4 (some .long), Cond.methodLink RX3 195 yX3_down, Cond.static yX3_down, Cond.code yX3_down cX3_down 6 (some .long)]
def wsX3_fixed : List Cond := .code yX3_fixed cX3_fixed 2 (some .long) :: ((wsX3_fixed_r1 ++ (wsX3_fixed_r2 ++ (wsX3_fixed_r3 ++ wsX3_fixed_r4))) ++ wsX30)
def wsX3_only_r1 : List Cond := [Cond.fieldLink RX3 61 "DeliveryBasketModel" "thrown" "I", Cond.fieldLink RX3 33 "DeliveryBasketModel" "alone" "I", Cond.fieldLink RX3 46 "DeliveryBasketModel" "value" "[J", Cond.methodLink RX3 87 yX3_isBond, Cond.instanceMethod yX3_isBond, Cond.selects RX3 yX3_isBond yX3_isBond, Cond.initialized RX3, Cond.code yX3_isBond cX3_isBond 2 (some .boolean), Cond.fieldLink RX3 64 "DeliveryBasketModel" "many" "I", Cond.methodLink RX3 67 yX3_isIn, Cond.static yX3_isIn, Cond.code yX3_isIn cX3_isIn 6 (some .boolean), Cond.methodLink RX3 120 yX3_isEligible, Cond.instanceMethod yX3_isEligible, Cond.selects RX3 yX3_isEligible yX3_isEligible, Cond.code yX3_isEligible cX3_isEligible 2 (some .boolean), Cond.fieldLink RX3 36 "DeliveryBasketModel" "but" "I", Cond.fieldLink RX3 17 "DeliveryBasketModel" "least" "I", Cond.fieldLink RX3 20 "DeliveryBasketModel" "most" "I", Cond.methodLink RX3 95 yX3_of1, Cond.instanceMethod yX3_of1, Cond.selects RX3 yX3_of1 yX3_of1, Cond.code yX3_of1 cX3_of1 3 (some .int), Cond.fieldLink RX3 7 "DeliveryBasketModel" "bond" "[I"]
def wsX3_only_r2 : List Cond := [Cond.methodLink RX3 116 yX3_factor, Cond.instanceMethod yX3_factor, Cond.selects RX3 yX3_factor yX3_factor, Cond.code yX3_factor cX3_factor 2 (some .long), Cond.fieldLink RX3 13 "DeliveryBasketModel" "notional" "I", Cond.constantLong RX3 105 (10000), Cond.methodLink RX3 113 yX3_worth, Cond.instanceMethod yX3_worth, Cond.selects RX3 yX3_worth yX3_worth, Cond.code yX3_worth cX3_worth 6 (some .long), Cond.methodLink RX3 110 yX3_flow1, Cond.instanceMethod yX3_flow1, Cond.selects RX3 yX3_flow1 yX3_flow1, Cond.code yX3_flow1 cX3_flow1 5 (some .long), Cond.methodLink RX3 101 yX3_owed, Cond.instanceMethod yX3_owed, Cond.selects RX3 yX3_owed yX3_owed, Cond.code yX3_owed cX3_owed 4 (some .long), Cond.constantLong RX3 99 (100000000), Cond.methodLink RX3 107 yX3_back, Cond.instanceMethod yX3_back, Cond.selects RX3 yX3_back yX3_back, Cond.code yX3_back cX3_back 3 (some .long), Cond.methodLink RX3 127 yX3_refuse]
def wsX3_only_r3 : List Cond := [Cond.instanceMethod yX3_refuse, Cond.selects RX3 yX3_refuse yX3_refuse, Cond.code yX3_refuse cX3_refuse 1 (some .int), Cond.methodLink RX3 199 yX3_laysTree, Cond.instanceMethod yX3_laysTree, Cond.selects RX3 yX3_laysTree yX3_laysTree, Cond.code yX3_laysTree cX3_laysTree 6 none, Cond.fieldLink RX3 141 "DeliveryBasketModel" "days" "I", Cond.fieldLink RX3 52 "DeliveryBasketModel" "waits" "[J", Cond.constantLong RX3 91 (2), Cond.fieldLink RX3 144 "DeliveryBasketModel" "carry" "I", Cond.fieldLink RX3 49 "DeliveryBasketModel" "nows" "[J", Cond.methodLink RX3 191 yX3_laysNow, Cond.instanceMethod yX3_laysNow, Cond.selects RX3 yX3_laysNow yX3_laysNow, Cond.code yX3_laysNow cX3_laysNow 7 none, Cond.fieldLink RX3 55 "DeliveryBasketModel" "bonds" "[I", Cond.fieldLink RX3 30 "DeliveryBasketModel" "agreed" "I", Cond.methodLink RX3 164 yX3_invoice, Cond.instanceMethod yX3_invoice, Cond.selects RX3 yX3_invoice yX3_invoice, Cond.code yX3_invoice cX3_invoice 4 (some .long), Cond.methodLink RX3 188 yX3_rate1, Cond.instanceMethod yX3_rate1]
def wsX3_only_r4 : List Cond := [Cond.selects RX3 yX3_rate1 yX3_rate1, Cond.code yX3_rate1 cX3_rate1 4 (some .int), Cond.fieldLink RX3 23 "DeliveryBasketModel" "start" "I", Cond.fieldLink RX3 26 "DeliveryBasketModel" "jump" "I", Cond.methodLink RX3 135 yX3_price1, Cond.instanceMethod yX3_price1, Cond.selects RX3 yX3_price1 yX3_price1, Cond.code yX3_price1 cX3_price1 4 (some .long), Cond.methodLink RX3 195 yX3_down, Cond.static yX3_down, Cond.code yX3_down cX3_down 6 (some .long)]
def wsX3_only : List Cond := .code yX3_only cX3_only 2 (some .long) :: ((wsX3_only_r1 ++ (wsX3_only_r2 ++ (wsX3_only_r3 ++ wsX3_only_r4))) ++ wsX30)
def wsX3_without_r1 : List Cond := [Cond.fieldLink RX3 61 "DeliveryBasketModel" "thrown" "I", Cond.fieldLink RX3 46 "DeliveryBasketModel" "value" "[J", Cond.fieldLink RX3 36 "DeliveryBasketModel" "but" "I", Cond.methodLink RX3 87 yX3_isBond, Cond.instanceMethod yX3_isBond, Cond.selects RX3 yX3_isBond yX3_isBond, Cond.initialized RX3, Cond.code yX3_isBond cX3_isBond 2 (some .boolean), Cond.fieldLink RX3 64 "DeliveryBasketModel" "many" "I", Cond.methodLink RX3 67 yX3_isIn, Cond.static yX3_isIn, Cond.code yX3_isIn cX3_isIn 6 (some .boolean), Cond.methodLink RX3 127 yX3_refuse, Cond.instanceMethod yX3_refuse, Cond.selects RX3 yX3_refuse yX3_refuse, Cond.code yX3_refuse cX3_refuse 1 (some .int), Cond.methodLink RX3 120 yX3_isEligible, Cond.instanceMethod yX3_isEligible, Cond.selects RX3 yX3_isEligible yX3_isEligible, Cond.code yX3_isEligible cX3_isEligible 2 (some .boolean), Cond.fieldLink RX3 33 "DeliveryBasketModel" "alone" "I", Cond.fieldLink RX3 17 "DeliveryBasketModel" "least" "I", Cond.fieldLink RX3 20 "DeliveryBasketModel" "most" "I", Cond.methodLink RX3 95 yX3_of1]
def wsX3_without_r2 : List Cond := [Cond.instanceMethod yX3_of1, Cond.selects RX3 yX3_of1 yX3_of1, Cond.code yX3_of1 cX3_of1 3 (some .int), Cond.fieldLink RX3 7 "DeliveryBasketModel" "bond" "[I", Cond.methodLink RX3 116 yX3_factor, Cond.instanceMethod yX3_factor, Cond.selects RX3 yX3_factor yX3_factor, Cond.code yX3_factor cX3_factor 2 (some .long), Cond.fieldLink RX3 13 "DeliveryBasketModel" "notional" "I", Cond.constantLong RX3 105 (10000), Cond.methodLink RX3 113 yX3_worth, Cond.instanceMethod yX3_worth, Cond.selects RX3 yX3_worth yX3_worth, Cond.code yX3_worth cX3_worth 6 (some .long), Cond.methodLink RX3 110 yX3_flow1, Cond.instanceMethod yX3_flow1, Cond.selects RX3 yX3_flow1 yX3_flow1, Cond.code yX3_flow1 cX3_flow1 5 (some .long), Cond.methodLink RX3 101 yX3_owed, Cond.instanceMethod yX3_owed, Cond.selects RX3 yX3_owed yX3_owed, Cond.code yX3_owed cX3_owed 4 (some .long), Cond.constantLong RX3 99 (100000000), Cond.methodLink RX3 107 yX3_back]
def wsX3_without_r3 : List Cond := [Cond.instanceMethod yX3_back, Cond.selects RX3 yX3_back yX3_back, Cond.code yX3_back cX3_back 3 (some .long), Cond.methodLink RX3 199 yX3_laysTree, Cond.instanceMethod yX3_laysTree, Cond.selects RX3 yX3_laysTree yX3_laysTree, Cond.code yX3_laysTree cX3_laysTree 6 none, Cond.fieldLink RX3 141 "DeliveryBasketModel" "days" "I", Cond.fieldLink RX3 52 "DeliveryBasketModel" "waits" "[J", Cond.constantLong RX3 91 (2), Cond.fieldLink RX3 144 "DeliveryBasketModel" "carry" "I", Cond.fieldLink RX3 49 "DeliveryBasketModel" "nows" "[J", Cond.methodLink RX3 191 yX3_laysNow, Cond.instanceMethod yX3_laysNow, Cond.selects RX3 yX3_laysNow yX3_laysNow, Cond.code yX3_laysNow cX3_laysNow 7 none, Cond.fieldLink RX3 55 "DeliveryBasketModel" "bonds" "[I", Cond.fieldLink RX3 30 "DeliveryBasketModel" "agreed" "I", Cond.methodLink RX3 164 yX3_invoice, Cond.instanceMethod yX3_invoice, Cond.selects RX3 yX3_invoice yX3_invoice, Cond.code yX3_invoice cX3_invoice 4 (some .long), Cond.methodLink RX3 188 yX3_rate1, Cond.instanceMethod yX3_rate1]
def wsX3_without_r4 : List Cond := [Cond.selects RX3 yX3_rate1 yX3_rate1, Cond.code yX3_rate1 cX3_rate1 4 (some .int), Cond.fieldLink RX3 23 "DeliveryBasketModel" "start" "I", Cond.fieldLink RX3 26 "DeliveryBasketModel" "jump" "I", Cond.methodLink RX3 135 yX3_price1, Cond.instanceMethod yX3_price1, Cond.selects RX3 yX3_price1 yX3_price1, Cond.code yX3_price1 cX3_price1 4 (some .long), Cond.methodLink RX3 195 yX3_down, Cond.static yX3_down, Cond.code yX3_down cX3_down 6 (some .long), Cond.methodLink RX3 155 yX3_isAny, Cond.instanceMethod yX3_isAny, Cond.selects RX3 yX3_isAny yX3_isAny, Cond.code yX3_isAny cX3_isAny 1 (some .boolean), Cond.methodLink RX3 123 yX3_eligible, Cond.instanceMethod yX3_eligible, Cond.selects RX3 yX3_eligible yX3_eligible, Cond.code yX3_eligible cX3_eligible 3 (some .int)]
def wsX3_without : List Cond := .code yX3_without cX3_without 5 (some .long) :: ((wsX3_without_r1 ++ (wsX3_without_r2 ++ (wsX3_without_r3 ++ wsX3_without_r4))) ++ wsX30)
def wsX3_isFair_r1 : List Cond := [Cond.fieldLink RX3 30 "DeliveryBasketModel" "agreed" "I", Cond.fieldLink RX3 46 "DeliveryBasketModel" "value" "[J", Cond.methodLink RX3 199 yX3_laysTree, Cond.instanceMethod yX3_laysTree, Cond.selects RX3 yX3_laysTree yX3_laysTree, Cond.initialized RX3, Cond.code yX3_laysTree cX3_laysTree 6 none, Cond.fieldLink RX3 141 "DeliveryBasketModel" "days" "I", Cond.fieldLink RX3 52 "DeliveryBasketModel" "waits" "[J", Cond.constantLong RX3 91 (2), Cond.fieldLink RX3 144 "DeliveryBasketModel" "carry" "I", Cond.fieldLink RX3 49 "DeliveryBasketModel" "nows" "[J", Cond.methodLink RX3 191 yX3_laysNow, Cond.instanceMethod yX3_laysNow, Cond.selects RX3 yX3_laysNow yX3_laysNow, Cond.code yX3_laysNow cX3_laysNow 7 none, Cond.fieldLink RX3 55 "DeliveryBasketModel" "bonds" "[I", Cond.fieldLink RX3 64 "DeliveryBasketModel" "many" "I", Cond.methodLink RX3 120 yX3_isEligible, Cond.instanceMethod yX3_isEligible, Cond.selects RX3 yX3_isEligible yX3_isEligible, Cond.code yX3_isEligible cX3_isEligible 2 (some .boolean), Cond.fieldLink RX3 33 "DeliveryBasketModel" "alone" "I", Cond.fieldLink RX3 36 "DeliveryBasketModel" "but" "I"]
def wsX3_isFair_r2 : List Cond := [Cond.fieldLink RX3 17 "DeliveryBasketModel" "least" "I", Cond.fieldLink RX3 20 "DeliveryBasketModel" "most" "I", Cond.methodLink RX3 95 yX3_of1, Cond.instanceMethod yX3_of1, Cond.selects RX3 yX3_of1 yX3_of1, Cond.code yX3_of1 cX3_of1 3 (some .int), Cond.fieldLink RX3 7 "DeliveryBasketModel" "bond" "[I", Cond.methodLink RX3 67 yX3_isIn, Cond.static yX3_isIn, Cond.code yX3_isIn cX3_isIn 6 (some .boolean), Cond.methodLink RX3 116 yX3_factor, Cond.instanceMethod yX3_factor, Cond.selects RX3 yX3_factor yX3_factor, Cond.code yX3_factor cX3_factor 2 (some .long), Cond.fieldLink RX3 13 "DeliveryBasketModel" "notional" "I", Cond.constantLong RX3 105 (10000), Cond.methodLink RX3 113 yX3_worth, Cond.instanceMethod yX3_worth, Cond.selects RX3 yX3_worth yX3_worth, Cond.code yX3_worth cX3_worth 6 (some .long), Cond.methodLink RX3 110 yX3_flow1, Cond.instanceMethod yX3_flow1, Cond.selects RX3 yX3_flow1 yX3_flow1, Cond.code yX3_flow1 cX3_flow1 5 (some .long)]
def wsX3_isFair_r3 : List Cond := [Cond.methodLink RX3 101 yX3_owed, Cond.instanceMethod yX3_owed, Cond.selects RX3 yX3_owed yX3_owed, Cond.code yX3_owed cX3_owed 4 (some .long), Cond.constantLong RX3 99 (100000000), Cond.methodLink RX3 107 yX3_back, Cond.instanceMethod yX3_back, Cond.selects RX3 yX3_back yX3_back, Cond.code yX3_back cX3_back 3 (some .long), Cond.methodLink RX3 164 yX3_invoice, Cond.instanceMethod yX3_invoice, Cond.selects RX3 yX3_invoice yX3_invoice, Cond.code yX3_invoice cX3_invoice 4 (some .long), Cond.methodLink RX3 188 yX3_rate1, Cond.instanceMethod yX3_rate1, Cond.selects RX3 yX3_rate1 yX3_rate1, Cond.code yX3_rate1 cX3_rate1 4 (some .int), Cond.fieldLink RX3 23 "DeliveryBasketModel" "start" "I", Cond.fieldLink RX3 26 "DeliveryBasketModel" "jump" "I", Cond.methodLink RX3 135 yX3_price1, Cond.instanceMethod yX3_price1, Cond.selects RX3 yX3_price1 yX3_price1, Cond.code yX3_price1 cX3_price1 4 (some .long), Cond.methodLink RX3 195 yX3_down]
def wsX3_isFair_r4 : List Cond := [Cond.static yX3_down, Cond.code yX3_down cX3_down 6 (some .long)]
def wsX3_isFair : List Cond := .code yX3_isFair cX3_isFair 3 (some .boolean) :: ((wsX3_isFair_r1 ++ (wsX3_isFair_r2 ++ (wsX3_isFair_r3 ++ wsX3_isFair_r4))) ++ wsX30)
def wsX3_fair_r1 : List Cond := [Cond.fieldLink RX3 61 "DeliveryBasketModel" "thrown" "I", Cond.constant RX3 206 (999999999), Cond.methodLink RX3 155 yX3_isAny, Cond.instanceMethod yX3_isAny, Cond.selects RX3 yX3_isAny yX3_isAny, Cond.initialized RX3, Cond.code yX3_isAny cX3_isAny 1 (some .boolean), Cond.methodLink RX3 123 yX3_eligible, Cond.instanceMethod yX3_eligible, Cond.selects RX3 yX3_eligible yX3_eligible, Cond.code yX3_eligible cX3_eligible 3 (some .int), Cond.fieldLink RX3 64 "DeliveryBasketModel" "many" "I", Cond.methodLink RX3 120 yX3_isEligible, Cond.instanceMethod yX3_isEligible, Cond.selects RX3 yX3_isEligible yX3_isEligible, Cond.code yX3_isEligible cX3_isEligible 2 (some .boolean), Cond.fieldLink RX3 33 "DeliveryBasketModel" "alone" "I", Cond.fieldLink RX3 36 "DeliveryBasketModel" "but" "I", Cond.fieldLink RX3 17 "DeliveryBasketModel" "least" "I", Cond.fieldLink RX3 20 "DeliveryBasketModel" "most" "I", Cond.methodLink RX3 95 yX3_of1, Cond.instanceMethod yX3_of1, Cond.selects RX3 yX3_of1 yX3_of1, Cond.code yX3_of1 cX3_of1 3 (some .int)]
def wsX3_fair_r2 : List Cond := [Cond.fieldLink RX3 7 "DeliveryBasketModel" "bond" "[I", Cond.methodLink RX3 67 yX3_isIn, Cond.static yX3_isIn, Cond.code yX3_isIn cX3_isIn 6 (some .boolean), Cond.methodLink RX3 116 yX3_factor, Cond.instanceMethod yX3_factor, Cond.selects RX3 yX3_factor yX3_factor, Cond.code yX3_factor cX3_factor 2 (some .long), Cond.fieldLink RX3 13 "DeliveryBasketModel" "notional" "I", Cond.constantLong RX3 105 (10000), Cond.methodLink RX3 113 yX3_worth, Cond.instanceMethod yX3_worth, Cond.selects RX3 yX3_worth yX3_worth, Cond.code yX3_worth cX3_worth 6 (some .long), Cond.methodLink RX3 110 yX3_flow1, Cond.instanceMethod yX3_flow1, Cond.selects RX3 yX3_flow1 yX3_flow1, Cond.code yX3_flow1 cX3_flow1 5 (some .long), Cond.methodLink RX3 101 yX3_owed, Cond.instanceMethod yX3_owed, Cond.selects RX3 yX3_owed yX3_owed, Cond.code yX3_owed cX3_owed 4 (some .long), Cond.constantLong RX3 99 (100000000), Cond.methodLink RX3 107 yX3_back]
def wsX3_fair_r3 : List Cond := [Cond.instanceMethod yX3_back, Cond.selects RX3 yX3_back yX3_back, Cond.code yX3_back cX3_back 3 (some .long), Cond.methodLink RX3 207 yX3_isFair, Cond.instanceMethod yX3_isFair, Cond.selects RX3 yX3_isFair yX3_isFair, Cond.code yX3_isFair cX3_isFair 3 (some .boolean), Cond.fieldLink RX3 30 "DeliveryBasketModel" "agreed" "I", Cond.fieldLink RX3 46 "DeliveryBasketModel" "value" "[J", Cond.methodLink RX3 199 yX3_laysTree, Cond.instanceMethod yX3_laysTree, Cond.selects RX3 yX3_laysTree yX3_laysTree, Cond.code yX3_laysTree cX3_laysTree 6 none, Cond.fieldLink RX3 141 "DeliveryBasketModel" "days" "I", Cond.fieldLink RX3 52 "DeliveryBasketModel" "waits" "[J", Cond.constantLong RX3 91 (2), Cond.fieldLink RX3 144 "DeliveryBasketModel" "carry" "I", Cond.fieldLink RX3 49 "DeliveryBasketModel" "nows" "[J", Cond.methodLink RX3 191 yX3_laysNow, Cond.instanceMethod yX3_laysNow, Cond.selects RX3 yX3_laysNow yX3_laysNow, Cond.code yX3_laysNow cX3_laysNow 7 none, Cond.fieldLink RX3 55 "DeliveryBasketModel" "bonds" "[I", Cond.methodLink RX3 164 yX3_invoice]
def wsX3_fair_r4 : List Cond := [Cond.instanceMethod yX3_invoice, Cond.selects RX3 yX3_invoice yX3_invoice, Cond.code yX3_invoice cX3_invoice 4 (some .long), Cond.methodLink RX3 188 yX3_rate1, Cond.instanceMethod yX3_rate1, Cond.selects RX3 yX3_rate1 yX3_rate1, Cond.code yX3_rate1 cX3_rate1 4 (some .int), Cond.fieldLink RX3 23 "DeliveryBasketModel" "start" "I", Cond.fieldLink RX3 26 "DeliveryBasketModel" "jump" "I", Cond.methodLink RX3 135 yX3_price1, Cond.instanceMethod yX3_price1, Cond.selects RX3 yX3_price1 yX3_price1, Cond.code yX3_price1 cX3_price1 4 (some .long), Cond.methodLink RX3 195 yX3_down, Cond.static yX3_down, Cond.code yX3_down cX3_down 6 (some .long)]
def wsX3_fair : List Cond := .code yX3_fair cX3_fair 4 (some .int) :: ((wsX3_fair_r1 ++ (wsX3_fair_r2 ++ (wsX3_fair_r3 ++ wsX3_fair_r4))) ++ wsX30)
def wsJ9_max_7cf53 : List Cond := .code yJ9_max_7cf53 cJ9_max_7cf53 2 (some .int) :: ([])
def wsJ9_min_7cf53 : List Cond := .code yJ9_min_7cf53 cJ9_min_7cf53 2 (some .int) :: ([])
def wsL_of_r1 : List Cond := [Cond.classLink RL 13 "java/util/NoSuchElementException", Cond.methodLink RL 7 yX2_of, Cond.instanceMethod yX2_of, Cond.selects RX2 yX2_of yX2_of, Cond.initialized RX2, Cond.code yX2_of cX2_of 4 (some .int), Cond.classLink RX2 76 "java/util/NoSuchElementException", Cond.initialized "java/util/NoSuchElementException", Cond.fieldLink RX2 11 "DeliveryBasket" "bonds" "[LDeliveryBasket$Bond;", Cond.fieldLink RX2 83 "DeliveryBasket$Bond" "kind" "I", Cond.fieldLink RX2 86 "DeliveryBasket$Bond" "coupon" "I", Cond.fieldLink RX2 89 "DeliveryBasket$Bond" "periods" "I", Cond.fieldLink RX2 92 "DeliveryBasket$Bond" "extra" "I", Cond.fieldLink RX2 95 "DeliveryBasket$Bond" "spread" "I", Cond.fieldLink RX2 98 "DeliveryBasket$Bond" "stock" "I", Cond.fieldLink RX2 101 "DeliveryBasket$Bond" "barred" "I", Cond.fieldLink RX2 104 "DeliveryBasket$Bond" "factor" "I", Cond.methodLink RX2 63 yX2_has, Cond.instanceMethod yX2_has, Cond.selects RX2 yX2_has yX2_has, Cond.code yX2_has cX2_has 2 (some .boolean), Cond.fieldLink RX2 44 "DeliveryBasket" "size" "I", Cond.methodLink RX2 47 yX2_within, Cond.static yX2_within]
def wsL_of_r2 : List Cond := [Cond.code yX2_within cX2_within 3 (some .boolean), Cond.methodLink RX2 107 yX2_isEligible, Cond.instanceMethod yX2_isEligible, Cond.selects RX2 yX2_isEligible yX2_isEligible, Cond.code yX2_isEligible cX2_isEligible 3 (some .boolean), Cond.fieldLink RX2 19 "DeliveryBasket" "least" "I", Cond.fieldLink RX2 22 "DeliveryBasket" "most" "I"]
def wsL_of : List Cond := .codeWith yL_of cL_of 5 (some .int) [(0, 10, 13, 13)] :: ((wsL_of_r1 ++ wsL_of_r2) ++ wsX20 ++ wsX00 ++ (vx_atS RX2 80 "java/util/NoSuchElementException" ["java/lang/RuntimeException", "java/lang/Exception"]).filter goodWord)
def wsL_gap_r1 : List Cond := [Cond.classLink RL 13 "java/util/NoSuchElementException", Cond.methodLink RL 15 yX2_gap, Cond.instanceMethod yX2_gap, Cond.selects RX2 yX2_gap yX2_gap, Cond.initialized RX2, Cond.code yX2_gap cX2_gap 5 (some .long), Cond.classLink RX2 76 "java/util/NoSuchElementException", Cond.initialized "java/util/NoSuchElementException", Cond.fieldLink RX2 11 "DeliveryBasket" "bonds" "[LDeliveryBasket$Bond;", Cond.methodLink RX2 63 yX2_has, Cond.instanceMethod yX2_has, Cond.selects RX2 yX2_has yX2_has, Cond.code yX2_has cX2_has 2 (some .boolean), Cond.fieldLink RX2 44 "DeliveryBasket" "size" "I", Cond.methodLink RX2 47 yX2_within, Cond.static yX2_within, Cond.code yX2_within cX2_within 3 (some .boolean), Cond.methodLink RX2 107 yX2_isEligible, Cond.instanceMethod yX2_isEligible, Cond.selects RX2 yX2_isEligible yX2_isEligible, Cond.code yX2_isEligible cX2_isEligible 3 (some .boolean), Cond.fieldLink RX2 101 "DeliveryBasket$Bond" "barred" "I", Cond.fieldLink RX2 89 "DeliveryBasket$Bond" "periods" "I", Cond.fieldLink RX2 19 "DeliveryBasket" "least" "I"]
def wsL_gap_r2 : List Cond := [Cond.fieldLink RX2 22 "DeliveryBasket" "most" "I", Cond.fieldLink RX2 104 "DeliveryBasket$Bond" "factor" "I", Cond.methodLink RX2 115 yX2_isRate, Cond.static yX2_isRate, Cond.code yX2_isRate cX2_isRate 1 (some .boolean), Cond.methodLink RX2 122 yX2_eligibleBits, Cond.instanceMethod yX2_eligibleBits, Cond.selects RX2 yX2_eligibleBits yX2_eligibleBits, Cond.code yX2_eligibleBits cX2_eligibleBits 3 (some .int), Cond.methodLink RX2 159 yX2_markAt, Cond.instanceMethod yX2_markAt, Cond.selects RX2 yX2_markAt yX2_markAt, Cond.code yX2_markAt cX2_markAt 4 (some .long), Cond.constantLong RX2 163 (-1), Cond.fieldLink RX2 32 "DeliveryBasket" "prices" "[I", Cond.constantLong RX2 241 (10000), Cond.methodLink RX2 144 yX2_cheapestAt, Cond.instanceMethod yX2_cheapestAt, Cond.selects RX2 yX2_cheapestAt yX2_cheapestAt, Cond.code yX2_cheapestAt cX2_cheapestAt 5 (some .int), Cond.methodLink RX2 148 yX2_layPrices, Cond.instanceMethod yX2_layPrices, Cond.selects RX2 yX2_layPrices yX2_layPrices, Cond.code yX2_layPrices cX2_layPrices 4 none]
def wsL_gap_r3 : List Cond := [Cond.methodLink RX2 152 yX2_isIn, Cond.static yX2_isIn, Cond.code yX2_isIn cX2_isIn 2 (some .boolean), Cond.methodLink RX2 118 yX0_priceAt, Cond.instanceMethod yX0_priceAt, Cond.selects RX0 yX0_priceAt yX0_priceAt, Cond.initialized RX0, Cond.code yX0_priceAt cX0_priceAt 2 (some .int), Cond.fieldLink RX0 28 "DeliveryBasket$Bond" "spread" "I", Cond.methodLink RX0 70 Lib.Math.max.name, Cond.static Lib.Math.max.name, Cond.initialized "java/lang/Math", Cond.code Lib.Math.max.name Lib.Math.max.code 2 (some .int), Cond.methodLink RX0 64 yX0_worthAt, Cond.instanceMethod yX0_worthAt, Cond.selects RX0 yX0_worthAt yX0_worthAt, Cond.code yX0_worthAt cX0_worthAt 2 (some .int), Cond.fieldLink RX0 40 "DeliveryBasket$Bond" "worths" "[I", Cond.methodLink RX0 75 yX0_discounted, Cond.instanceMethod yX0_discounted, Cond.selects RX0 yX0_discounted yX0_discounted, Cond.code yX0_discounted cX0_discounted 6 (some .int), Cond.fieldLink RX0 22 "DeliveryBasket$Bond" "periods" "I", Cond.fieldLink RX0 9 "DeliveryBasket$Bond" "flows" "[I"]
def wsL_gap_r4 : List Cond := [Cond.constantLong RX0 58 (10000), Cond.methodLink RX2 238 yX2_comesAhead, Cond.instanceMethod yX2_comesAhead, Cond.selects RX2 yX2_comesAhead yX2_comesAhead, Cond.code yX2_comesAhead cX2_comesAhead 7 (some .boolean), Cond.methodLink RX2 167 yX0_invoiceBy, Cond.instanceMethod yX0_invoiceBy, Cond.selects RX0 yX0_invoiceBy yX0_invoiceBy, Cond.code yX0_invoiceBy cX0_invoiceBy 3 (some .long), Cond.fieldLink RX0 67 "DeliveryBasket$Bond" "factor" "I"]
def wsL_gap : List Cond := .codeWith yL_gap cL_gap 5 (some .int) [(0, 9, 12, 13)] :: ((wsL_gap_r1 ++ (wsL_gap_r2 ++ (wsL_gap_r3 ++ wsL_gap_r4))) ++ wsX20 ++ wsX00 ++ (vx_atS RX2 80 "java/util/NoSuchElementException" ["java/lang/RuntimeException", "java/lang/Exception"]).filter goodWord)
def wsL_cost_r1 : List Cond := [Cond.classLink RL 13 "java/util/NoSuchElementException", Cond.methodLink RL 19 yX2_cost, Cond.instanceMethod yX2_cost, Cond.selects RX2 yX2_cost yX2_cost, Cond.initialized RX2, Cond.code yX2_cost cX2_cost 7 (some .long), Cond.classLink RX2 76 "java/util/NoSuchElementException", Cond.initialized "java/util/NoSuchElementException", Cond.fieldLink RX2 44 "DeliveryBasket" "size" "I", Cond.fieldLink RX2 40 "DeliveryBasket" "taken" "[I", Cond.fieldLink RX2 36 "DeliveryBasket" "costs" "[J", Cond.methodLink RX2 174 yX2_canAsk, Cond.static yX2_canAsk, Cond.code yX2_canAsk cX2_canAsk 3 (some .boolean), Cond.constant RX2 184 (999999999), Cond.methodLink RX2 47 yX2_within, Cond.static yX2_within, Cond.code yX2_within cX2_within 3 (some .boolean), Cond.methodLink RX2 115 yX2_isRate, Cond.static yX2_isRate, Cond.code yX2_isRate cX2_isRate 1 (some .boolean), Cond.methodLink RX2 177 yX2_takeCheapest, Cond.instanceMethod yX2_takeCheapest, Cond.selects RX2 yX2_takeCheapest yX2_takeCheapest]
def wsL_cost_r2 : List Cond := [Cond.code yX2_takeCheapest cX2_takeCheapest 8 (some .boolean), Cond.fieldLink RX2 11 "DeliveryBasket" "bonds" "[LDeliveryBasket$Bond;", Cond.fieldLink RX2 98 "DeliveryBasket$Bond" "stock" "I", Cond.methodLink RX2 252 Lib.Math.min.name, Cond.static Lib.Math.min.name, Cond.initialized "java/lang/Math", Cond.code Lib.Math.min.name Lib.Math.min.code 2 (some .int), Cond.methodLink RX2 122 yX2_eligibleBits, Cond.instanceMethod yX2_eligibleBits, Cond.selects RX2 yX2_eligibleBits yX2_eligibleBits, Cond.code yX2_eligibleBits cX2_eligibleBits 3 (some .int), Cond.methodLink RX2 107 yX2_isEligible, Cond.instanceMethod yX2_isEligible, Cond.selects RX2 yX2_isEligible yX2_isEligible, Cond.code yX2_isEligible cX2_isEligible 3 (some .boolean), Cond.fieldLink RX2 101 "DeliveryBasket$Bond" "barred" "I", Cond.fieldLink RX2 89 "DeliveryBasket$Bond" "periods" "I", Cond.fieldLink RX2 19 "DeliveryBasket" "least" "I", Cond.fieldLink RX2 22 "DeliveryBasket" "most" "I", Cond.fieldLink RX2 104 "DeliveryBasket$Bond" "factor" "I", Cond.methodLink RX2 243 yJ7_fill_53178, Cond.static yJ7_fill_53178, Cond.initialized RJ7, Cond.code yJ7_fill_53178 cJ7_fill_53178 4 none]
def wsL_cost_r3 : List Cond := [Cond.methodLink RX2 118 yX0_priceAt, Cond.instanceMethod yX0_priceAt, Cond.selects RX0 yX0_priceAt yX0_priceAt, Cond.initialized RX0, Cond.code yX0_priceAt cX0_priceAt 2 (some .int), Cond.fieldLink RX0 28 "DeliveryBasket$Bond" "spread" "I", Cond.methodLink RX0 70 Lib.Math.max.name, Cond.static Lib.Math.max.name, Cond.code Lib.Math.max.name Lib.Math.max.code 2 (some .int), Cond.methodLink RX0 64 yX0_worthAt, Cond.instanceMethod yX0_worthAt, Cond.selects RX0 yX0_worthAt yX0_worthAt, Cond.code yX0_worthAt cX0_worthAt 2 (some .int), Cond.fieldLink RX0 40 "DeliveryBasket$Bond" "worths" "[I", Cond.methodLink RX0 75 yX0_discounted, Cond.instanceMethod yX0_discounted, Cond.selects RX0 yX0_discounted yX0_discounted, Cond.code yX0_discounted cX0_discounted 6 (some .int), Cond.fieldLink RX0 22 "DeliveryBasket$Bond" "periods" "I", Cond.fieldLink RX0 9 "DeliveryBasket$Bond" "flows" "[I", Cond.constantLong RX0 58 (10000), Cond.methodLink RX2 167 yX0_invoiceBy, Cond.instanceMethod yX0_invoiceBy, Cond.selects RX0 yX0_invoiceBy yX0_invoiceBy]
def wsL_cost_r4 : List Cond := [Cond.code yX0_invoiceBy cX0_invoiceBy 3 (some .long), Cond.fieldLink RX0 67 "DeliveryBasket$Bond" "factor" "I", Cond.methodLink RX2 249 yX2_leastCost, Cond.instanceMethod yX2_leastCost, Cond.selects RX2 yX2_leastCost yX2_leastCost, Cond.code yX2_leastCost cX2_leastCost 4 (some .int), Cond.methodLink RX2 152 yX2_isIn, Cond.static yX2_isIn, Cond.code yX2_isIn cX2_isIn 2 (some .boolean)]
def wsL_cost : List Cond := .codeWith yL_cost cL_cost 6 (some .int) [(0, 11, 14, 13)] :: ((wsL_cost_r1 ++ (wsL_cost_r2 ++ (wsL_cost_r3 ++ wsL_cost_r4))) ++ wsX20 ++ wsX00 ++ (vx_atS RX2 80 "java/util/NoSuchElementException" ["java/lang/RuntimeException", "java/lang/Exception"]).filter goodWord)
def wsL_value_r1 : List Cond := [Cond.classLink RL 13 "java/util/NoSuchElementException", Cond.methodLink RL 23 yX2_value, Cond.instanceMethod yX2_value, Cond.selects RX2 yX2_value yX2_value, Cond.initialized RX2, Cond.code yX2_value cX2_value 4 (some .long), Cond.classLink RX2 76 "java/util/NoSuchElementException", Cond.initialized "java/util/NoSuchElementException", Cond.fieldLink RX2 28 "DeliveryBasket" "lattice" "LDeliveryBasket$Lattice;", Cond.fieldLink RX2 204 "DeliveryBasket$Lattice" "values" "[[J", Cond.methodLink RX2 122 yX2_eligibleBits, Cond.instanceMethod yX2_eligibleBits, Cond.selects RX2 yX2_eligibleBits yX2_eligibleBits, Cond.code yX2_eligibleBits cX2_eligibleBits 3 (some .int), Cond.fieldLink RX2 44 "DeliveryBasket" "size" "I", Cond.methodLink RX2 107 yX2_isEligible, Cond.instanceMethod yX2_isEligible, Cond.selects RX2 yX2_isEligible yX2_isEligible, Cond.code yX2_isEligible cX2_isEligible 3 (some .boolean), Cond.fieldLink RX2 11 "DeliveryBasket" "bonds" "[LDeliveryBasket$Bond;", Cond.fieldLink RX2 101 "DeliveryBasket$Bond" "barred" "I", Cond.fieldLink RX2 89 "DeliveryBasket$Bond" "periods" "I", Cond.fieldLink RX2 19 "DeliveryBasket" "least" "I", Cond.fieldLink RX2 22 "DeliveryBasket" "most" "I"]
def wsL_value_r2 : List Cond := [Cond.fieldLink RX2 104 "DeliveryBasket$Bond" "factor" "I", Cond.methodLink RX2 47 yX2_within, Cond.static yX2_within, Cond.code yX2_within cX2_within 3 (some .boolean), Cond.methodLink RX2 189 yX1_hasNode, Cond.instanceMethod yX1_hasNode, Cond.selects RX1 yX1_hasNode yX1_hasNode, Cond.initialized RX1, Cond.code yX1_hasNode cX1_hasNode 3 (some .boolean), Cond.methodLink RX1 59 yX1_hasDay, Cond.instanceMethod yX1_hasDay, Cond.selects RX1 yX1_hasDay yX1_hasDay, Cond.code yX1_hasDay cX1_hasDay 2 (some .boolean), Cond.fieldLink RX1 49 "DeliveryBasket$Lattice" "days" "I", Cond.methodLink RX2 200 yX2_valueBy, Cond.instanceMethod yX2_valueBy, Cond.selects RX2 yX2_valueBy yX2_valueBy, Cond.code yX2_valueBy cX2_valueBy 2 (some .long), Cond.fieldLink RX2 141 "DeliveryBasket$Lattice" "agreed" "I", Cond.fieldLink RX2 129 "DeliveryBasket$Lattice" "days" "I", Cond.methodLink RX2 220 yX1_layPrices, Cond.instanceMethod yX1_layPrices, Cond.selects RX1 yX1_layPrices yX1_layPrices, Cond.code yX1_layPrices cX1_layPrices 6 none]
def wsL_value_r3 : List Cond := [Cond.fieldLink RX1 32 "DeliveryBasket$Lattice" "levelPrices" "[[I", Cond.methodLink RX1 72 yX1_rateAt, Cond.instanceMethod yX1_rateAt, Cond.selects RX1 yX1_rateAt yX1_rateAt, Cond.code yX1_rateAt cX1_rateAt 2 (some .int), Cond.fieldLink RX1 9 "DeliveryBasket$Lattice" "start" "I", Cond.fieldLink RX1 15 "DeliveryBasket$Lattice" "jump" "I", Cond.methodLink RX1 63 Lib.Math.min.name, Cond.static Lib.Math.min.name, Cond.initialized "java/lang/Math", Cond.code Lib.Math.min.name Lib.Math.min.code 2 (some .int), Cond.methodLink RX1 69 Lib.Math.max.name, Cond.static Lib.Math.max.name, Cond.code Lib.Math.max.name Lib.Math.max.code 2 (some .int), Cond.methodLink RX1 76 yX0_priceAt, Cond.instanceMethod yX0_priceAt, Cond.selects RX0 yX0_priceAt yX0_priceAt, Cond.initialized RX0, Cond.code yX0_priceAt cX0_priceAt 2 (some .int), Cond.fieldLink RX0 28 "DeliveryBasket$Bond" "spread" "I", Cond.methodLink RX0 70 Lib.Math.max.name, Cond.methodLink RX0 64 yX0_worthAt, Cond.instanceMethod yX0_worthAt, Cond.selects RX0 yX0_worthAt yX0_worthAt]
def wsL_value_r4 : List Cond := [Cond.code yX0_worthAt cX0_worthAt 2 (some .int), Cond.fieldLink RX0 40 "DeliveryBasket$Bond" "worths" "[I", Cond.methodLink RX0 75 yX0_discounted, Cond.instanceMethod yX0_discounted, Cond.selects RX0 yX0_discounted yX0_discounted, Cond.code yX0_discounted cX0_discounted 6 (some .int), Cond.fieldLink RX0 22 "DeliveryBasket$Bond" "periods" "I", Cond.fieldLink RX0 9 "DeliveryBasket$Bond" "flows" "[I", Cond.constantLong RX0 58 (10000), Cond.methodLink RX2 223 yX1_layNow, Cond.instanceMethod yX1_layNow, Cond.selects RX1 yX1_layNow yX1_layNow, Cond.code yX1_layNow cX1_layNow 6 none, Cond.fieldLink RX1 43 "DeliveryBasket$Lattice" "invoices" "[J", Cond.fieldLink RX1 39 "DeliveryBasket$Lattice" "levelPick" "[I", Cond.fieldLink RX1 35 "DeliveryBasket$Lattice" "levelNow" "[J", Cond.static yX2_isIn, Cond.code yX2_isIn cX2_isIn 2 (some .boolean), Cond.methodLink RX1 85 yX0_invoiceBy, Cond.instanceMethod yX0_invoiceBy, Cond.selects RX0 yX0_invoiceBy yX0_invoiceBy, Cond.code yX0_invoiceBy cX0_invoiceBy 3 (some .long), Cond.fieldLink RX0 67 "DeliveryBasket$Bond" "factor" "I", Cond.methodLink RX1 89 yX1_bestOn]
def wsL_value_r5 : List Cond := [Cond.instanceMethod yX1_bestOn, Cond.selects RX1 yX1_bestOn yX1_bestOn, Cond.code yX1_bestOn cX1_bestOn 9 (some .int), Cond.methodLink RX2 227 yX1_rollBack, Cond.instanceMethod yX1_rollBack, Cond.selects RX1 yX1_rollBack yX1_rollBack, Cond.code yX1_rollBack cX1_rollBack 7 (some .long), Cond.fieldLink RX1 24 "DeliveryBasket$Lattice" "values" "[[J", Cond.constantLong RX1 96 (2), Cond.fieldLink RX1 52 "DeliveryBasket$Lattice" "carry" "I", Cond.fieldLink RX1 29 "DeliveryBasket$Lattice" "acts" "[[I", Cond.methodLink RX1 92 yX1_deliverAt, Cond.instanceMethod yX1_deliverAt, Cond.selects RX1 yX1_deliverAt yX1_deliverAt, Cond.code yX1_deliverAt cX1_deliverAt 4 none, Cond.methodLink RX1 102 yX1_level, Cond.instanceMethod yX1_level, Cond.selects RX1 yX1_level yX1_level, Cond.code yX1_level cX1_level 3 (some .int), Cond.methodLink RX1 98 yJ9_floorDiv_f86c9, Cond.static yJ9_floorDiv_f86c9, Cond.initialized RJ9, Cond.code yJ9_floorDiv_f86c9 cJ9_floorDiv_f86c9 6 (some .long)]
def wsL_value : List Cond := .codeWith yL_value cL_value 5 (some .int) [(0, 9, 12, 13)] :: ((wsL_value_r1 ++ (wsL_value_r2 ++ (wsL_value_r3 ++ (wsL_value_r4 ++ wsL_value_r5)))) ++ wsX20 ++ wsX10 ++ wsX00 ++ (vx_atS RX2 80 "java/util/NoSuchElementException" ["java/lang/RuntimeException", "java/lang/Exception"]).filter goodWord)
def wsL_fixed_r1 : List Cond := [Cond.classLink RL 13 "java/util/NoSuchElementException", Cond.methodLink RL 26 yX2_fixed, Cond.instanceMethod yX2_fixed, Cond.selects RX2 yX2_fixed yX2_fixed, Cond.initialized RX2, Cond.code yX2_fixed cX2_fixed 3 (some .long), Cond.classLink RX2 76 "java/util/NoSuchElementException", Cond.initialized "java/util/NoSuchElementException", Cond.fieldLink RX2 28 "DeliveryBasket" "lattice" "LDeliveryBasket$Lattice;", Cond.fieldLink RX2 11 "DeliveryBasket" "bonds" "[LDeliveryBasket$Bond;", Cond.fieldLink RX2 44 "DeliveryBasket" "size" "I", Cond.fieldLink RX2 141 "DeliveryBasket$Lattice" "agreed" "I", Cond.methodLink RX2 122 yX2_eligibleBits, Cond.instanceMethod yX2_eligibleBits, Cond.selects RX2 yX2_eligibleBits yX2_eligibleBits, Cond.code yX2_eligibleBits cX2_eligibleBits 3 (some .int), Cond.methodLink RX2 107 yX2_isEligible, Cond.instanceMethod yX2_isEligible, Cond.selects RX2 yX2_isEligible yX2_isEligible, Cond.code yX2_isEligible cX2_isEligible 3 (some .boolean), Cond.fieldLink RX2 101 "DeliveryBasket$Bond" "barred" "I", Cond.fieldLink RX2 89 "DeliveryBasket$Bond" "periods" "I", Cond.fieldLink RX2 19 "DeliveryBasket" "least" "I", Cond.fieldLink RX2 22 "DeliveryBasket" "most" "I"]
def wsL_fixed_r2 : List Cond := [Cond.fieldLink RX2 104 "DeliveryBasket$Bond" "factor" "I", Cond.methodLink RX2 47 yX2_within, Cond.static yX2_within, Cond.code yX2_within cX2_within 3 (some .boolean), Cond.methodLink RX2 212 yX1_hasDay, Cond.instanceMethod yX1_hasDay, Cond.selects RX1 yX1_hasDay yX1_hasDay, Cond.initialized RX1, Cond.code yX1_hasDay cX1_hasDay 2 (some .boolean), Cond.fieldLink RX1 49 "DeliveryBasket$Lattice" "days" "I", Cond.methodLink RX2 220 yX1_layPrices, Cond.instanceMethod yX1_layPrices, Cond.selects RX1 yX1_layPrices yX1_layPrices, Cond.code yX1_layPrices cX1_layPrices 6 none, Cond.fieldLink RX1 32 "DeliveryBasket$Lattice" "levelPrices" "[[I", Cond.methodLink RX1 72 yX1_rateAt, Cond.instanceMethod yX1_rateAt, Cond.selects RX1 yX1_rateAt yX1_rateAt, Cond.code yX1_rateAt cX1_rateAt 2 (some .int), Cond.fieldLink RX1 9 "DeliveryBasket$Lattice" "start" "I", Cond.fieldLink RX1 15 "DeliveryBasket$Lattice" "jump" "I", Cond.methodLink RX1 63 Lib.Math.min.name, Cond.static Lib.Math.min.name, Cond.initialized "java/lang/Math"]
def wsL_fixed_r3 : List Cond := [Cond.code Lib.Math.min.name Lib.Math.min.code 2 (some .int), Cond.methodLink RX1 69 Lib.Math.max.name, Cond.static Lib.Math.max.name, Cond.code Lib.Math.max.name Lib.Math.max.code 2 (some .int), Cond.methodLink RX1 76 yX0_priceAt, Cond.instanceMethod yX0_priceAt, Cond.selects RX0 yX0_priceAt yX0_priceAt, Cond.initialized RX0, Cond.code yX0_priceAt cX0_priceAt 2 (some .int), Cond.fieldLink RX0 28 "DeliveryBasket$Bond" "spread" "I", Cond.methodLink RX0 70 Lib.Math.max.name, Cond.methodLink RX0 64 yX0_worthAt, Cond.instanceMethod yX0_worthAt, Cond.selects RX0 yX0_worthAt yX0_worthAt, Cond.code yX0_worthAt cX0_worthAt 2 (some .int), Cond.fieldLink RX0 40 "DeliveryBasket$Bond" "worths" "[I", Cond.methodLink RX0 75 yX0_discounted, Cond.instanceMethod yX0_discounted, Cond.selects RX0 yX0_discounted yX0_discounted, Cond.code yX0_discounted cX0_discounted 6 (some .int), Cond.fieldLink RX0 22 "DeliveryBasket$Bond" "periods" "I", Cond.fieldLink RX0 9 "DeliveryBasket$Bond" "flows" "[I", Cond.constantLong RX0 58 (10000), Cond.methodLink RX2 223 yX1_layNow]
def wsL_fixed_r4 : List Cond := [Cond.instanceMethod yX1_layNow, Cond.selects RX1 yX1_layNow yX1_layNow, Cond.code yX1_layNow cX1_layNow 6 none, Cond.fieldLink RX1 43 "DeliveryBasket$Lattice" "invoices" "[J", Cond.fieldLink RX1 39 "DeliveryBasket$Lattice" "levelPick" "[I", Cond.fieldLink RX1 35 "DeliveryBasket$Lattice" "levelNow" "[J", Cond.static yX2_isIn, Cond.code yX2_isIn cX2_isIn 2 (some .boolean), Cond.methodLink RX1 85 yX0_invoiceBy, Cond.instanceMethod yX0_invoiceBy, Cond.selects RX0 yX0_invoiceBy yX0_invoiceBy, Cond.code yX0_invoiceBy cX0_invoiceBy 3 (some .long), Cond.fieldLink RX0 67 "DeliveryBasket$Bond" "factor" "I", Cond.methodLink RX1 89 yX1_bestOn, Cond.instanceMethod yX1_bestOn, Cond.selects RX1 yX1_bestOn yX1_bestOn, Cond.code yX1_bestOn cX1_bestOn 9 (some .int), Cond.methodLink RX2 227 yX1_rollBack, Cond.instanceMethod yX1_rollBack, Cond.selects RX1 yX1_rollBack yX1_rollBack, Cond.code yX1_rollBack cX1_rollBack 7 (some .long), Cond.fieldLink RX1 24 "DeliveryBasket$Lattice" "values" "[[J", Cond.constantLong RX1 96 (2), Cond.fieldLink RX1 52 "DeliveryBasket$Lattice" "carry" "I"]
def wsL_fixed_r5 : List Cond := [Cond.fieldLink RX1 29 "DeliveryBasket$Lattice" "acts" "[[I", Cond.methodLink RX1 92 yX1_deliverAt, Cond.instanceMethod yX1_deliverAt, Cond.selects RX1 yX1_deliverAt yX1_deliverAt, Cond.code yX1_deliverAt cX1_deliverAt 4 none, Cond.methodLink RX1 102 yX1_level, Cond.instanceMethod yX1_level, Cond.selects RX1 yX1_level yX1_level, Cond.code yX1_level cX1_level 3 (some .int), Cond.methodLink RX1 98 yJ9_floorDiv_f86c9, Cond.static yJ9_floorDiv_f86c9, Cond.initialized RJ9, Cond.code yJ9_floorDiv_f86c9 cJ9_floorDiv_f86c9 6 (some .long)]
def wsL_fixed : List Cond := .codeWith yL_fixed cL_fixed 4 (some .int) [(0, 8, 11, 13)] :: ((wsL_fixed_r1 ++ (wsL_fixed_r2 ++ (wsL_fixed_r3 ++ (wsL_fixed_r4 ++ wsL_fixed_r5)))) ++ wsX20 ++ wsX10 ++ wsX00 ++ (vx_atS RX2 80 "java/util/NoSuchElementException" ["java/lang/RuntimeException", "java/lang/Exception"]).filter goodWord)
def wsL_only_r1 : List Cond := [Cond.classLink RL 13 "java/util/NoSuchElementException", Cond.methodLink RL 30 yX2_only, Cond.instanceMethod yX2_only, Cond.selects RX2 yX2_only yX2_only, Cond.initialized RX2, Cond.code yX2_only cX2_only 2 (some .long), Cond.classLink RX2 76 "java/util/NoSuchElementException", Cond.initialized "java/util/NoSuchElementException", Cond.methodLink RX2 63 yX2_has, Cond.instanceMethod yX2_has, Cond.selects RX2 yX2_has yX2_has, Cond.code yX2_has cX2_has 2 (some .boolean), Cond.fieldLink RX2 44 "DeliveryBasket" "size" "I", Cond.methodLink RX2 47 yX2_within, Cond.static yX2_within, Cond.code yX2_within cX2_within 3 (some .boolean), Cond.methodLink RX2 107 yX2_isEligible, Cond.instanceMethod yX2_isEligible, Cond.selects RX2 yX2_isEligible yX2_isEligible, Cond.code yX2_isEligible cX2_isEligible 3 (some .boolean), Cond.fieldLink RX2 11 "DeliveryBasket" "bonds" "[LDeliveryBasket$Bond;", Cond.fieldLink RX2 101 "DeliveryBasket$Bond" "barred" "I", Cond.fieldLink RX2 89 "DeliveryBasket$Bond" "periods" "I", Cond.fieldLink RX2 19 "DeliveryBasket" "least" "I"]
def wsL_only_r2 : List Cond := [Cond.fieldLink RX2 22 "DeliveryBasket" "most" "I", Cond.fieldLink RX2 104 "DeliveryBasket$Bond" "factor" "I", Cond.methodLink RX2 200 yX2_valueBy, Cond.instanceMethod yX2_valueBy, Cond.selects RX2 yX2_valueBy yX2_valueBy, Cond.code yX2_valueBy cX2_valueBy 2 (some .long), Cond.fieldLink RX2 28 "DeliveryBasket" "lattice" "LDeliveryBasket$Lattice;", Cond.fieldLink RX2 141 "DeliveryBasket$Lattice" "agreed" "I", Cond.fieldLink RX2 129 "DeliveryBasket$Lattice" "days" "I", Cond.methodLink RX2 220 yX1_layPrices, Cond.instanceMethod yX1_layPrices, Cond.selects RX1 yX1_layPrices yX1_layPrices, Cond.initialized RX1, Cond.code yX1_layPrices cX1_layPrices 6 none, Cond.fieldLink RX1 49 "DeliveryBasket$Lattice" "days" "I", Cond.fieldLink RX1 32 "DeliveryBasket$Lattice" "levelPrices" "[[I", Cond.methodLink RX1 72 yX1_rateAt, Cond.instanceMethod yX1_rateAt, Cond.selects RX1 yX1_rateAt yX1_rateAt, Cond.code yX1_rateAt cX1_rateAt 2 (some .int), Cond.fieldLink RX1 9 "DeliveryBasket$Lattice" "start" "I", Cond.fieldLink RX1 15 "DeliveryBasket$Lattice" "jump" "I", Cond.methodLink RX1 63 Lib.Math.min.name, Cond.static Lib.Math.min.name]
def wsL_only_r3 : List Cond := [Cond.initialized "java/lang/Math", Cond.code Lib.Math.min.name Lib.Math.min.code 2 (some .int), Cond.methodLink RX1 69 Lib.Math.max.name, Cond.static Lib.Math.max.name, Cond.code Lib.Math.max.name Lib.Math.max.code 2 (some .int), Cond.methodLink RX1 76 yX0_priceAt, Cond.instanceMethod yX0_priceAt, Cond.selects RX0 yX0_priceAt yX0_priceAt, Cond.initialized RX0, Cond.code yX0_priceAt cX0_priceAt 2 (some .int), Cond.fieldLink RX0 28 "DeliveryBasket$Bond" "spread" "I", Cond.methodLink RX0 70 Lib.Math.max.name, Cond.methodLink RX0 64 yX0_worthAt, Cond.instanceMethod yX0_worthAt, Cond.selects RX0 yX0_worthAt yX0_worthAt, Cond.code yX0_worthAt cX0_worthAt 2 (some .int), Cond.fieldLink RX0 40 "DeliveryBasket$Bond" "worths" "[I", Cond.methodLink RX0 75 yX0_discounted, Cond.instanceMethod yX0_discounted, Cond.selects RX0 yX0_discounted yX0_discounted, Cond.code yX0_discounted cX0_discounted 6 (some .int), Cond.fieldLink RX0 22 "DeliveryBasket$Bond" "periods" "I", Cond.fieldLink RX0 9 "DeliveryBasket$Bond" "flows" "[I", Cond.constantLong RX0 58 (10000)]
def wsL_only_r4 : List Cond := [Cond.methodLink RX2 223 yX1_layNow, Cond.instanceMethod yX1_layNow, Cond.selects RX1 yX1_layNow yX1_layNow, Cond.code yX1_layNow cX1_layNow 6 none, Cond.fieldLink RX1 43 "DeliveryBasket$Lattice" "invoices" "[J", Cond.fieldLink RX1 39 "DeliveryBasket$Lattice" "levelPick" "[I", Cond.fieldLink RX1 35 "DeliveryBasket$Lattice" "levelNow" "[J", Cond.static yX2_isIn, Cond.code yX2_isIn cX2_isIn 2 (some .boolean), Cond.methodLink RX1 85 yX0_invoiceBy, Cond.instanceMethod yX0_invoiceBy, Cond.selects RX0 yX0_invoiceBy yX0_invoiceBy, Cond.code yX0_invoiceBy cX0_invoiceBy 3 (some .long), Cond.fieldLink RX0 67 "DeliveryBasket$Bond" "factor" "I", Cond.methodLink RX1 89 yX1_bestOn, Cond.instanceMethod yX1_bestOn, Cond.selects RX1 yX1_bestOn yX1_bestOn, Cond.code yX1_bestOn cX1_bestOn 9 (some .int), Cond.methodLink RX2 227 yX1_rollBack, Cond.instanceMethod yX1_rollBack, Cond.selects RX1 yX1_rollBack yX1_rollBack, Cond.code yX1_rollBack cX1_rollBack 7 (some .long), Cond.fieldLink RX1 24 "DeliveryBasket$Lattice" "values" "[[J", Cond.constantLong RX1 96 (2)]
def wsL_only_r5 : List Cond := [Cond.fieldLink RX1 52 "DeliveryBasket$Lattice" "carry" "I", Cond.fieldLink RX1 29 "DeliveryBasket$Lattice" "acts" "[[I", Cond.methodLink RX1 92 yX1_deliverAt, Cond.instanceMethod yX1_deliverAt, Cond.selects RX1 yX1_deliverAt yX1_deliverAt, Cond.code yX1_deliverAt cX1_deliverAt 4 none, Cond.methodLink RX1 102 yX1_level, Cond.instanceMethod yX1_level, Cond.selects RX1 yX1_level yX1_level, Cond.code yX1_level cX1_level 3 (some .int), Cond.methodLink RX1 98 yJ9_floorDiv_f86c9, Cond.static yJ9_floorDiv_f86c9, Cond.initialized RJ9, Cond.code yJ9_floorDiv_f86c9 cJ9_floorDiv_f86c9 6 (some .long)]
def wsL_only : List Cond := .codeWith yL_only cL_only 4 (some .int) [(0, 8, 11, 13)] :: ((wsL_only_r1 ++ (wsL_only_r2 ++ (wsL_only_r3 ++ (wsL_only_r4 ++ wsL_only_r5)))) ++ wsX20 ++ wsX00 ++ wsX10 ++ (vx_atS RX2 80 "java/util/NoSuchElementException" ["java/lang/RuntimeException", "java/lang/Exception"]).filter goodWord)
def wsL_without_r1 : List Cond := [Cond.classLink RL 13 "java/util/NoSuchElementException", Cond.methodLink RL 33 yX2_without, Cond.instanceMethod yX2_without, Cond.selects RX2 yX2_without yX2_without, Cond.initialized RX2, Cond.code yX2_without cX2_without 4 (some .long), Cond.classLink RX2 76 "java/util/NoSuchElementException", Cond.initialized "java/util/NoSuchElementException", Cond.methodLink RX2 63 yX2_has, Cond.instanceMethod yX2_has, Cond.selects RX2 yX2_has yX2_has, Cond.code yX2_has cX2_has 2 (some .boolean), Cond.fieldLink RX2 44 "DeliveryBasket" "size" "I", Cond.methodLink RX2 47 yX2_within, Cond.static yX2_within, Cond.code yX2_within cX2_within 3 (some .boolean), Cond.methodLink RX2 107 yX2_isEligible, Cond.instanceMethod yX2_isEligible, Cond.selects RX2 yX2_isEligible yX2_isEligible, Cond.code yX2_isEligible cX2_isEligible 3 (some .boolean), Cond.fieldLink RX2 11 "DeliveryBasket" "bonds" "[LDeliveryBasket$Bond;", Cond.fieldLink RX2 101 "DeliveryBasket$Bond" "barred" "I", Cond.fieldLink RX2 89 "DeliveryBasket$Bond" "periods" "I", Cond.fieldLink RX2 19 "DeliveryBasket" "least" "I"]
def wsL_without_r2 : List Cond := [Cond.fieldLink RX2 22 "DeliveryBasket" "most" "I", Cond.fieldLink RX2 104 "DeliveryBasket$Bond" "factor" "I", Cond.methodLink RX2 122 yX2_eligibleBits, Cond.instanceMethod yX2_eligibleBits, Cond.selects RX2 yX2_eligibleBits yX2_eligibleBits, Cond.code yX2_eligibleBits cX2_eligibleBits 3 (some .int), Cond.methodLink RX2 200 yX2_valueBy, Cond.instanceMethod yX2_valueBy, Cond.selects RX2 yX2_valueBy yX2_valueBy, Cond.code yX2_valueBy cX2_valueBy 2 (some .long), Cond.fieldLink RX2 28 "DeliveryBasket" "lattice" "LDeliveryBasket$Lattice;", Cond.fieldLink RX2 141 "DeliveryBasket$Lattice" "agreed" "I", Cond.fieldLink RX2 129 "DeliveryBasket$Lattice" "days" "I", Cond.methodLink RX2 220 yX1_layPrices, Cond.instanceMethod yX1_layPrices, Cond.selects RX1 yX1_layPrices yX1_layPrices, Cond.initialized RX1, Cond.code yX1_layPrices cX1_layPrices 6 none, Cond.fieldLink RX1 49 "DeliveryBasket$Lattice" "days" "I", Cond.fieldLink RX1 32 "DeliveryBasket$Lattice" "levelPrices" "[[I", Cond.methodLink RX1 72 yX1_rateAt, Cond.instanceMethod yX1_rateAt, Cond.selects RX1 yX1_rateAt yX1_rateAt, Cond.code yX1_rateAt cX1_rateAt 2 (some .int)]
def wsL_without_r3 : List Cond := [Cond.fieldLink RX1 9 "DeliveryBasket$Lattice" "start" "I", Cond.fieldLink RX1 15 "DeliveryBasket$Lattice" "jump" "I", Cond.methodLink RX1 63 Lib.Math.min.name, Cond.static Lib.Math.min.name, Cond.initialized "java/lang/Math", Cond.code Lib.Math.min.name Lib.Math.min.code 2 (some .int), Cond.methodLink RX1 69 Lib.Math.max.name, Cond.static Lib.Math.max.name, Cond.code Lib.Math.max.name Lib.Math.max.code 2 (some .int), Cond.methodLink RX1 76 yX0_priceAt, Cond.instanceMethod yX0_priceAt, Cond.selects RX0 yX0_priceAt yX0_priceAt, Cond.initialized RX0, Cond.code yX0_priceAt cX0_priceAt 2 (some .int), Cond.fieldLink RX0 28 "DeliveryBasket$Bond" "spread" "I", Cond.methodLink RX0 70 Lib.Math.max.name, Cond.methodLink RX0 64 yX0_worthAt, Cond.instanceMethod yX0_worthAt, Cond.selects RX0 yX0_worthAt yX0_worthAt, Cond.code yX0_worthAt cX0_worthAt 2 (some .int), Cond.fieldLink RX0 40 "DeliveryBasket$Bond" "worths" "[I", Cond.methodLink RX0 75 yX0_discounted, Cond.instanceMethod yX0_discounted, Cond.selects RX0 yX0_discounted yX0_discounted]
def wsL_without_r4 : List Cond := [Cond.code yX0_discounted cX0_discounted 6 (some .int), Cond.fieldLink RX0 22 "DeliveryBasket$Bond" "periods" "I", Cond.fieldLink RX0 9 "DeliveryBasket$Bond" "flows" "[I", Cond.constantLong RX0 58 (10000), Cond.methodLink RX2 223 yX1_layNow, Cond.instanceMethod yX1_layNow, Cond.selects RX1 yX1_layNow yX1_layNow, Cond.code yX1_layNow cX1_layNow 6 none, Cond.fieldLink RX1 43 "DeliveryBasket$Lattice" "invoices" "[J", Cond.fieldLink RX1 39 "DeliveryBasket$Lattice" "levelPick" "[I", Cond.fieldLink RX1 35 "DeliveryBasket$Lattice" "levelNow" "[J", Cond.static yX2_isIn, Cond.code yX2_isIn cX2_isIn 2 (some .boolean), Cond.methodLink RX1 85 yX0_invoiceBy, Cond.instanceMethod yX0_invoiceBy, Cond.selects RX0 yX0_invoiceBy yX0_invoiceBy, Cond.code yX0_invoiceBy cX0_invoiceBy 3 (some .long), Cond.fieldLink RX0 67 "DeliveryBasket$Bond" "factor" "I", Cond.methodLink RX1 89 yX1_bestOn, Cond.instanceMethod yX1_bestOn, Cond.selects RX1 yX1_bestOn yX1_bestOn, Cond.code yX1_bestOn cX1_bestOn 9 (some .int), Cond.methodLink RX2 227 yX1_rollBack, Cond.instanceMethod yX1_rollBack]
def wsL_without_r5 : List Cond := [Cond.selects RX1 yX1_rollBack yX1_rollBack, Cond.code yX1_rollBack cX1_rollBack 7 (some .long), Cond.fieldLink RX1 24 "DeliveryBasket$Lattice" "values" "[[J", Cond.constantLong RX1 96 (2), Cond.fieldLink RX1 52 "DeliveryBasket$Lattice" "carry" "I", Cond.fieldLink RX1 29 "DeliveryBasket$Lattice" "acts" "[[I", Cond.methodLink RX1 92 yX1_deliverAt, Cond.instanceMethod yX1_deliverAt, Cond.selects RX1 yX1_deliverAt yX1_deliverAt, Cond.code yX1_deliverAt cX1_deliverAt 4 none, Cond.methodLink RX1 102 yX1_level, Cond.instanceMethod yX1_level, Cond.selects RX1 yX1_level yX1_level, Cond.code yX1_level cX1_level 3 (some .int), Cond.methodLink RX1 98 yJ9_floorDiv_f86c9, Cond.static yJ9_floorDiv_f86c9, Cond.initialized RJ9, Cond.code yJ9_floorDiv_f86c9 cJ9_floorDiv_f86c9 6 (some .long)]
def wsL_without : List Cond := .codeWith yL_without cL_without 4 (some .int) [(0, 8, 11, 13)] :: ((wsL_without_r1 ++ (wsL_without_r2 ++ (wsL_without_r3 ++ (wsL_without_r4 ++ wsL_without_r5)))) ++ wsX20 ++ wsX00 ++ wsX10 ++ (vx_atS RX2 80 "java/util/NoSuchElementException" ["java/lang/RuntimeException", "java/lang/Exception"]).filter goodWord)
def wsL_law0_r1 : List Cond := [Cond.classLink RL 8 RX2, Cond.instantiable RX2 9, Cond.initialized RX2, Cond.classLink RL 37 RX3, Cond.instantiable RX3 20, Cond.initialized RX3, Cond.arrayClass .long, Cond.constantLong RL 105 (4294967295), Cond.methodLink RL 36 yX2_init, Cond.instanceMethod yX2_init, Cond.code yX2_init cX2_init 2 none, Cond.methodLink RX2 3 objectInit, Cond.instanceMethod objectInit, Cond.code objectInit ⟨#[0xb1]⟩ 1 none, Cond.classLink RX2 9 RX0, Cond.fieldLink RX2 11 "DeliveryBasket" "bonds" "[LDeliveryBasket$Bond;", Cond.fieldLink RX2 15 "DeliveryBasket" "notional" "I", Cond.fieldLink RX2 19 "DeliveryBasket" "least" "I", Cond.fieldLink RX2 22 "DeliveryBasket" "most" "I", Cond.classLink RX2 25 RX1, Cond.instantiable RX1 12, Cond.initialized RX1, Cond.fieldLink RX2 28 "DeliveryBasket" "lattice" "LDeliveryBasket$Lattice;", Cond.arrayClass .int]
def wsL_law0_r2 : List Cond := [Cond.fieldLink RX2 32 "DeliveryBasket" "prices" "[I", Cond.fieldLink RX2 36 "DeliveryBasket" "costs" "[J", Cond.fieldLink RX2 40 "DeliveryBasket" "taken" "[I", Cond.instantiable RX0 10, Cond.initialized RX0, Cond.instanceMethod yX1_init, Cond.code yX1_init cX1_init 1 none, Cond.methodLink RX1 3 objectInit, Cond.fieldLink RX1 9 "DeliveryBasket$Lattice" "start" "I", Cond.fieldLink RX1 15 "DeliveryBasket$Lattice" "jump" "I", Cond.constant RX1 18 (100000000), Cond.fieldLink RX1 19 "DeliveryBasket$Lattice" "agreed" "I", Cond.classLink RX1 22 "[[J", Cond.fieldLink RX1 24 "DeliveryBasket$Lattice" "values" "[[J", Cond.classLink RX1 27 "[[I", Cond.fieldLink RX1 29 "DeliveryBasket$Lattice" "acts" "[[I", Cond.fieldLink RX1 32 "DeliveryBasket$Lattice" "levelPrices" "[[I", Cond.fieldLink RX1 35 "DeliveryBasket$Lattice" "levelNow" "[J", Cond.fieldLink RX1 39 "DeliveryBasket$Lattice" "levelPick" "[I", Cond.fieldLink RX1 43 "DeliveryBasket$Lattice" "invoices" "[J", Cond.fieldLink RX1 46 "DeliveryBasket$Lattice" "ways" "[I", Cond.instanceMethod yX0_init, Cond.code yX0_init cX0_init 1 none, Cond.methodLink RX0 3 objectInit]
def wsL_law0_r3 : List Cond := [Cond.fieldLink RX0 9 "DeliveryBasket$Bond" "flows" "[I", Cond.methodLink RL 39 yX3_init, Cond.instanceMethod yX3_init, Cond.code yX3_init cX3_init 1 none, Cond.methodLink RX3 1 objectInit, Cond.fieldLink RX3 7 "DeliveryBasketModel" "bond" "[I", Cond.fieldLink RX3 13 "DeliveryBasketModel" "notional" "I", Cond.fieldLink RX3 17 "DeliveryBasketModel" "least" "I", Cond.fieldLink RX3 20 "DeliveryBasketModel" "most" "I", Cond.fieldLink RX3 23 "DeliveryBasketModel" "start" "I", Cond.fieldLink RX3 26 "DeliveryBasketModel" "jump" "I", Cond.constant RX3 29 (100000000), Cond.fieldLink RX3 30 "DeliveryBasketModel" "agreed" "I", Cond.fieldLink RX3 33 "DeliveryBasketModel" "alone" "I", Cond.fieldLink RX3 36 "DeliveryBasketModel" "but" "I", Cond.fieldLink RX3 39 "DeliveryBasketModel" "given" "[I", Cond.fieldLink RX3 42 "DeliveryBasketModel" "costs" "[J", Cond.fieldLink RX3 46 "DeliveryBasketModel" "value" "[J", Cond.fieldLink RX3 49 "DeliveryBasketModel" "nows" "[J", Cond.fieldLink RX3 52 "DeliveryBasketModel" "waits" "[J", Cond.fieldLink RX3 55 "DeliveryBasketModel" "bonds" "[I", Cond.fieldLink RX3 58 "DeliveryBasketModel" "ways" "[I", Cond.methodLink RL 40 yX2_bond, Cond.instanceMethod yX2_bond]
def wsL_law0_r4 : List Cond := [Cond.selects RX2 yX2_bond yX2_bond, Cond.code yX2_bond cX2_bond 7 (some .int), Cond.fieldLink RX2 44 "DeliveryBasket" "size" "I", Cond.methodLink RX2 47 yX2_within, Cond.static yX2_within, Cond.code yX2_within cX2_within 3 (some .boolean), Cond.methodLink RX2 51 yX2_canBe, Cond.static yX2_canBe, Cond.code yX2_canBe cX2_canBe 4 (some .boolean), Cond.methodLink RX2 55 yX0_become, Cond.instanceMethod yX0_become, Cond.selects RX0 yX0_become yX0_become, Cond.code yX0_become cX0_become 6 none, Cond.fieldLink RX0 15 "DeliveryBasket$Bond" "kind" "I", Cond.fieldLink RX0 19 "DeliveryBasket$Bond" "coupon" "I", Cond.fieldLink RX0 22 "DeliveryBasket$Bond" "periods" "I", Cond.fieldLink RX0 25 "DeliveryBasket$Bond" "extra" "I", Cond.fieldLink RX0 28 "DeliveryBasket$Bond" "spread" "I", Cond.fieldLink RX0 31 "DeliveryBasket$Bond" "stock" "I", Cond.fieldLink RX0 34 "DeliveryBasket$Bond" "barred" "I", Cond.fieldLink RX0 40 "DeliveryBasket$Bond" "worths" "[I", Cond.methodLink RX0 37 yX0_layFlows, Cond.instanceMethod yX0_layFlows, Cond.selects RX0 yX0_layFlows yX0_layFlows]
def wsL_law0_r5 : List Cond := [Cond.code yX0_layFlows cX0_layFlows 4 none, Cond.constant RX0 49 (100000000), Cond.constantLong RX0 58 (10000), Cond.methodLink RX0 50 yX0_paidBack, Cond.instanceMethod yX0_paidBack, Cond.selects RX0 yX0_paidBack yX0_paidBack, Cond.code yX0_paidBack cX0_paidBack 3 (some .int), Cond.methodLink RX0 54 yX0_couponIn, Cond.instanceMethod yX0_couponIn, Cond.selects RX0 yX0_couponIn yX0_couponIn, Cond.code yX0_couponIn cX0_couponIn 2 (some .int), Cond.methodLink RX0 43 yJ7_fill_53178, Cond.static yJ7_fill_53178, Cond.initialized RJ7, Cond.code yJ7_fill_53178 cJ7_fill_53178 4 none, Cond.methodLink RX2 59 yX0_factorBy, Cond.instanceMethod yX0_factorBy, Cond.selects RX0 yX0_factorBy yX0_factorBy, Cond.code yX0_factorBy cX0_factorBy 2 none, Cond.fieldLink RX0 67 "DeliveryBasket$Bond" "factor" "I", Cond.methodLink RX0 64 yX0_worthAt, Cond.instanceMethod yX0_worthAt, Cond.selects RX0 yX0_worthAt yX0_worthAt, Cond.code yX0_worthAt cX0_worthAt 2 (some .int)]
def wsL_law0_r6 : List Cond := [Cond.methodLink RX0 75 yX0_discounted, Cond.instanceMethod yX0_discounted, Cond.selects RX0 yX0_discounted yX0_discounted, Cond.code yX0_discounted cX0_discounted 6 (some .int), Cond.methodLink RL 44 yX3_bond, Cond.instanceMethod yX3_bond, Cond.selects RX3 yX3_bond yX3_bond, Cond.code yX3_bond cX3_bond 7 (some .int), Cond.fieldLink RX3 61 "DeliveryBasketModel" "thrown" "I", Cond.fieldLink RX3 64 "DeliveryBasketModel" "many" "I", Cond.methodLink RX3 83 yX3_isGood, Cond.static yX3_isGood, Cond.code yX3_isGood cX3_isGood 5 (some .boolean), Cond.constantLong RX3 71 (3), Cond.constantLong RX3 73 (2000), Cond.constantLong RX3 75 (40), Cond.constantLong RX3 77 (-200), Cond.constantLong RX3 79 (200), Cond.constantLong RX3 81 (100), Cond.methodLink RX3 67 yX3_isIn, Cond.static yX3_isIn, Cond.code yX3_isIn cX3_isIn 6 (some .boolean), Cond.methodLink RL 45 yX2_drop, Cond.instanceMethod yX2_drop]
def wsL_law0_r7 : List Cond := [Cond.selects RX2 yX2_drop yX2_drop, Cond.code yX2_drop cX2_drop 4 (some .int), Cond.methodLink RX2 63 yX2_has, Cond.instanceMethod yX2_has, Cond.selects RX2 yX2_has yX2_has, Cond.code yX2_has cX2_has 2 (some .boolean), Cond.methodLink RL 49 yX3_drop, Cond.instanceMethod yX3_drop, Cond.selects RX3 yX3_drop yX3_drop, Cond.code yX3_drop cX3_drop 3 (some .int), Cond.methodLink RX3 87 yX3_isBond, Cond.instanceMethod yX3_isBond, Cond.selects RX3 yX3_isBond yX3_isBond, Cond.code yX3_isBond cX3_isBond 2 (some .boolean), Cond.methodLink RL 50 yX2_alter, Cond.instanceMethod yX2_alter, Cond.selects RX2 yX2_alter yX2_alter, Cond.code yX2_alter cX2_alter 5 (some .boolean), Cond.methodLink RX2 67 yX0_changeSpread, Cond.instanceMethod yX0_changeSpread, Cond.selects RX0 yX0_changeSpread yX0_changeSpread, Cond.code yX0_changeSpread cX0_changeSpread 2 (some .boolean), Cond.methodLink RX2 70 yX0_changeStock, Cond.instanceMethod yX0_changeStock]
def wsL_law0_r8 : List Cond := [Cond.selects RX0 yX0_changeStock yX0_changeStock, Cond.code yX0_changeStock cX0_changeStock 2 (some .boolean), Cond.methodLink RX2 73 yX0_changeBarred, Cond.instanceMethod yX0_changeBarred, Cond.selects RX0 yX0_changeBarred yX0_changeBarred, Cond.code yX0_changeBarred cX0_changeBarred 2 (some .boolean), Cond.methodLink RL 54 yX3_alter, Cond.instanceMethod yX3_alter, Cond.selects RX3 yX3_alter yX3_alter, Cond.code yX3_alter cX3_alter 5 (some .boolean), Cond.constantLong RX3 91 (2), Cond.constantLong RX3 93 (99), Cond.methodLink RX3 95 yX3_of1, Cond.instanceMethod yX3_of1, Cond.selects RX3 yX3_of1 yX3_of1, Cond.code yX3_of1 cX3_of1 3 (some .int), Cond.methodLink RL 55 yL_of, Cond.static yL_of, Cond.initialized RL, Cond.codeWith yL_of cL_of 5 (some .int) [(0, 10, 13, 13)], Cond.classLink RL 13 "java/util/NoSuchElementException", Cond.methodLink RL 7 yX2_of, Cond.instanceMethod yX2_of, Cond.selects RX2 yX2_of yX2_of]
def wsL_law0_r9 : List Cond := [Cond.code yX2_of cX2_of 4 (some .int), Cond.classLink RX2 76 "java/util/NoSuchElementException", Cond.initialized "java/util/NoSuchElementException", Cond.fieldLink RX2 83 "DeliveryBasket$Bond" "kind" "I", Cond.fieldLink RX2 86 "DeliveryBasket$Bond" "coupon" "I", Cond.fieldLink RX2 89 "DeliveryBasket$Bond" "periods" "I", Cond.fieldLink RX2 92 "DeliveryBasket$Bond" "extra" "I", Cond.fieldLink RX2 95 "DeliveryBasket$Bond" "spread" "I", Cond.fieldLink RX2 98 "DeliveryBasket$Bond" "stock" "I", Cond.fieldLink RX2 101 "DeliveryBasket$Bond" "barred" "I", Cond.fieldLink RX2 104 "DeliveryBasket$Bond" "factor" "I", Cond.methodLink RX2 107 yX2_isEligible, Cond.instanceMethod yX2_isEligible, Cond.selects RX2 yX2_isEligible yX2_isEligible, Cond.code yX2_isEligible cX2_isEligible 3 (some .boolean), Cond.methodLink RL 60 yX3_of, Cond.instanceMethod yX3_of, Cond.selects RX3 yX3_of yX3_of, Cond.code yX3_of cX3_of 3 (some .int), Cond.methodLink RX3 127 yX3_refuse, Cond.instanceMethod yX3_refuse, Cond.selects RX3 yX3_refuse yX3_refuse, Cond.code yX3_refuse cX3_refuse 1 (some .int), Cond.methodLink RX3 116 yX3_factor]
def wsL_law0_r10 : List Cond := [Cond.instanceMethod yX3_factor, Cond.selects RX3 yX3_factor yX3_factor, Cond.code yX3_factor cX3_factor 2 (some .long), Cond.constantLong RX3 105 (10000), Cond.methodLink RX3 113 yX3_worth, Cond.instanceMethod yX3_worth, Cond.selects RX3 yX3_worth yX3_worth, Cond.code yX3_worth cX3_worth 6 (some .long), Cond.methodLink RX3 110 yX3_flow1, Cond.instanceMethod yX3_flow1, Cond.selects RX3 yX3_flow1 yX3_flow1, Cond.code yX3_flow1 cX3_flow1 5 (some .long), Cond.methodLink RX3 101 yX3_owed, Cond.instanceMethod yX3_owed, Cond.selects RX3 yX3_owed yX3_owed, Cond.code yX3_owed cX3_owed 4 (some .long), Cond.constantLong RX3 99 (100000000), Cond.methodLink RX3 107 yX3_back, Cond.instanceMethod yX3_back, Cond.selects RX3 yX3_back yX3_back, Cond.code yX3_back cX3_back 3 (some .long), Cond.methodLink RX3 120 yX3_isEligible, Cond.instanceMethod yX3_isEligible, Cond.selects RX3 yX3_isEligible yX3_isEligible]
def wsL_law0_r11 : List Cond := [Cond.code yX3_isEligible cX3_isEligible 2 (some .boolean), Cond.methodLink RL 61 yX3_thrown, Cond.instanceMethod yX3_thrown, Cond.selects RX3 yX3_thrown yX3_thrown, Cond.code yX3_thrown cX3_thrown 1 (some .int), Cond.methodLink RL 65 yX2_flow, Cond.instanceMethod yX2_flow, Cond.selects RX2 yX2_flow yX2_flow, Cond.code yX2_flow cX2_flow 3 (some .int), Cond.fieldLink RX2 112 "DeliveryBasket$Bond" "flows" "[I", Cond.methodLink RL 68 yX3_flow, Cond.instanceMethod yX3_flow, Cond.selects RX3 yX3_flow yX3_flow, Cond.code yX3_flow cX3_flow 3 (some .int), Cond.methodLink RL 69 yX2_price, Cond.instanceMethod yX2_price, Cond.selects RX2 yX2_price yX2_price, Cond.code yX2_price cX2_price 3 (some .int), Cond.methodLink RX2 115 yX2_isRate, Cond.static yX2_isRate, Cond.code yX2_isRate cX2_isRate 1 (some .boolean), Cond.methodLink RX2 118 yX0_priceAt, Cond.instanceMethod yX0_priceAt, Cond.selects RX0 yX0_priceAt yX0_priceAt]
def wsL_law0_r12 : List Cond := [Cond.code yX0_priceAt cX0_priceAt 2 (some .int), Cond.methodLink RX0 70 Lib.Math.max.name, Cond.static Lib.Math.max.name, Cond.initialized "java/lang/Math", Cond.code Lib.Math.max.name Lib.Math.max.code 2 (some .int), Cond.methodLink RL 72 yX3_price, Cond.instanceMethod yX3_price, Cond.selects RX3 yX3_price yX3_price, Cond.code yX3_price cX3_price 3 (some .int), Cond.methodLink RX3 132 yX3_isRate, Cond.static yX3_isRate, Cond.code yX3_isRate cX3_isRate 1 (some .boolean), Cond.constantLong RX3 130 (3000), Cond.methodLink RX3 135 yX3_price1, Cond.instanceMethod yX3_price1, Cond.selects RX3 yX3_price1 yX3_price1, Cond.code yX3_price1 cX3_price1 4 (some .long), Cond.methodLink RL 73 yX2_rateOf, Cond.instanceMethod yX2_rateOf, Cond.selects RX2 yX2_rateOf yX2_rateOf, Cond.code yX2_rateOf cX2_rateOf 5 (some .int), Cond.methodLink RL 76 yX3_rateOf, Cond.instanceMethod yX3_rateOf, Cond.selects RX3 yX3_rateOf yX3_rateOf]
def wsL_law0_r13 : List Cond := [Cond.code yX3_rateOf cX3_rateOf 4 (some .int), Cond.methodLink RL 77 yX2_contract, Cond.instanceMethod yX2_contract, Cond.selects RX2 yX2_contract yX2_contract, Cond.code yX2_contract cX2_contract 5 (some .boolean), Cond.methodLink RL 80 yX3_contract, Cond.instanceMethod yX3_contract, Cond.selects RX3 yX3_contract yX3_contract, Cond.code yX3_contract cX3_contract 4 (some .boolean), Cond.methodLink RL 81 yX2_count, Cond.instanceMethod yX2_count, Cond.selects RX2 yX2_count yX2_count, Cond.code yX2_count cX2_count 2 (some .int), Cond.fieldLink RX2 129 "DeliveryBasket$Lattice" "days" "I", Cond.fieldLink RX2 132 "DeliveryBasket$Lattice" "start" "I", Cond.fieldLink RX2 135 "DeliveryBasket$Lattice" "jump" "I", Cond.fieldLink RX2 138 "DeliveryBasket$Lattice" "carry" "I", Cond.fieldLink RX2 141 "DeliveryBasket$Lattice" "agreed" "I", Cond.methodLink RX2 122 yX2_eligibleBits, Cond.instanceMethod yX2_eligibleBits, Cond.selects RX2 yX2_eligibleBits yX2_eligibleBits, Cond.code yX2_eligibleBits cX2_eligibleBits 3 (some .int), Cond.methodLink RX2 126 yX2_eligibleStock, Cond.instanceMethod yX2_eligibleStock]
def wsL_law0_r14 : List Cond := [Cond.selects RX2 yX2_eligibleStock yX2_eligibleStock, Cond.code yX2_eligibleStock cX2_eligibleStock 3 (some .int), Cond.methodLink RL 84 yX3_count, Cond.instanceMethod yX3_count, Cond.selects RX3 yX3_count yX3_count, Cond.code yX3_count cX3_count 2 (some .int), Cond.fieldLink RX3 141 "DeliveryBasketModel" "days" "I", Cond.fieldLink RX3 144 "DeliveryBasketModel" "carry" "I", Cond.methodLink RX3 123 yX3_eligible, Cond.instanceMethod yX3_eligible, Cond.selects RX3 yX3_eligible yX3_eligible, Cond.code yX3_eligible cX3_eligible 3 (some .int), Cond.methodLink RX3 138 yX3_stocks, Cond.instanceMethod yX3_stocks, Cond.selects RX3 yX3_stocks yX3_stocks, Cond.code yX3_stocks cX3_stocks 3 (some .int), Cond.methodLink RL 85 yX2_cheapest, Cond.instanceMethod yX2_cheapest, Cond.selects RX2 yX2_cheapest yX2_cheapest, Cond.code yX2_cheapest cX2_cheapest 2 (some .int), Cond.methodLink RX2 144 yX2_cheapestAt, Cond.instanceMethod yX2_cheapestAt, Cond.selects RX2 yX2_cheapestAt yX2_cheapestAt, Cond.code yX2_cheapestAt cX2_cheapestAt 5 (some .int)]
def wsL_law0_r15 : List Cond := [Cond.methodLink RX2 148 yX2_layPrices, Cond.instanceMethod yX2_layPrices, Cond.selects RX2 yX2_layPrices yX2_layPrices, Cond.code yX2_layPrices cX2_layPrices 4 none, Cond.methodLink RX2 152 yX2_isIn, Cond.static yX2_isIn, Cond.code yX2_isIn cX2_isIn 2 (some .boolean), Cond.methodLink RX2 238 yX2_comesAhead, Cond.instanceMethod yX2_comesAhead, Cond.selects RX2 yX2_comesAhead yX2_comesAhead, Cond.code yX2_comesAhead cX2_comesAhead 7 (some .boolean), Cond.methodLink RL 88 yX3_cheapest, Cond.instanceMethod yX3_cheapest, Cond.selects RX3 yX3_cheapest yX3_cheapest, Cond.code yX3_cheapest cX3_cheapest 2 (some .int), Cond.methodLink RX3 151 yX3_cheapest1, Cond.instanceMethod yX3_cheapest1, Cond.selects RX3 yX3_cheapest1 yX3_cheapest1, Cond.code yX3_cheapest1 cX3_cheapest1 4 (some .int), Cond.methodLink RX3 147 yX3_isDearer, Cond.instanceMethod yX3_isDearer, Cond.selects RX3 yX3_isDearer yX3_isDearer, Cond.code yX3_isDearer cX3_isDearer 4 (some .boolean), Cond.methodLink RL 89 yX2_ranked]
def wsL_law0_r16 : List Cond := [Cond.instanceMethod yX2_ranked, Cond.selects RX2 yX2_ranked yX2_ranked, Cond.code yX2_ranked cX2_ranked 5 (some .int), Cond.methodLink RX2 156 yX2_howManyAhead, Cond.instanceMethod yX2_howManyAhead, Cond.selects RX2 yX2_howManyAhead yX2_howManyAhead, Cond.code yX2_howManyAhead cX2_howManyAhead 5 (some .int), Cond.methodLink RL 92 yX3_ranked, Cond.instanceMethod yX3_ranked, Cond.selects RX3 yX3_ranked yX3_ranked, Cond.code yX3_ranked cX3_ranked 6 (some .int), Cond.methodLink RL 93 yX2_mark, Cond.instanceMethod yX2_mark, Cond.selects RX2 yX2_mark yX2_mark, Cond.code yX2_mark cX2_mark 2 (some .long), Cond.constantLong RX2 163 (-1), Cond.methodLink RX2 159 yX2_markAt, Cond.instanceMethod yX2_markAt, Cond.selects RX2 yX2_markAt yX2_markAt, Cond.code yX2_markAt cX2_markAt 4 (some .long), Cond.constantLong RX2 241 (10000), Cond.methodLink RL 96 yX3_mark, Cond.instanceMethod yX3_mark, Cond.selects RX3 yX3_mark yX3_mark]
def wsL_law0_r17 : List Cond := [Cond.code yX3_mark cX3_mark 2 (some .long), Cond.constantLong RX3 162 (-1), Cond.methodLink RX3 155 yX3_isAny, Cond.instanceMethod yX3_isAny, Cond.selects RX3 yX3_isAny yX3_isAny, Cond.code yX3_isAny cX3_isAny 1 (some .boolean), Cond.methodLink RX3 159 yX3_mark1, Cond.instanceMethod yX3_mark1, Cond.selects RX3 yX3_mark1 yX3_mark1, Cond.code yX3_mark1 cX3_mark1 3 (some .long), Cond.methodLink RL 97 yL_gap, Cond.static yL_gap, Cond.codeWith yL_gap cL_gap 5 (some .int) [(0, 9, 12, 13)], Cond.methodLink RL 15 yX2_gap, Cond.instanceMethod yX2_gap, Cond.selects RX2 yX2_gap yX2_gap, Cond.code yX2_gap cX2_gap 5 (some .long), Cond.methodLink RX2 167 yX0_invoiceBy, Cond.instanceMethod yX0_invoiceBy, Cond.selects RX0 yX0_invoiceBy yX0_invoiceBy, Cond.code yX0_invoiceBy cX0_invoiceBy 3 (some .long), Cond.methodLink RL 99 yX3_gap, Cond.instanceMethod yX3_gap, Cond.selects RX3 yX3_gap yX3_gap]
def wsL_law0_r18 : List Cond := [Cond.code yX3_gap cX3_gap 3 (some .long), Cond.methodLink RX3 164 yX3_invoice, Cond.instanceMethod yX3_invoice, Cond.selects RX3 yX3_invoice yX3_invoice, Cond.code yX3_invoice cX3_invoice 4 (some .long), Cond.methodLink RL 100 yX2_switches, Cond.instanceMethod yX2_switches, Cond.selects RX2 yX2_switches yX2_switches, Cond.code yX2_switches cX2_switches 9 (some .int), Cond.methodLink RX2 171 yX2_keepWorths, Cond.instanceMethod yX2_keepWorths, Cond.selects RX2 yX2_keepWorths yX2_keepWorths, Cond.code yX2_keepWorths cX2_keepWorths 3 none, Cond.methodLink RX2 236 yX0_keepWorths, Cond.instanceMethod yX0_keepWorths, Cond.selects RX0 yX0_keepWorths yX0_keepWorths, Cond.code yX0_keepWorths cX0_keepWorths 1 none, Cond.methodLink RL 104 yX3_switches, Cond.instanceMethod yX3_switches, Cond.selects RX3 yX3_switches yX3_switches, Cond.code yX3_switches cX3_switches 6 (some .int), Cond.methodLink RL 107 yX2_implied, Cond.instanceMethod yX2_implied, Cond.selects RX2 yX2_implied yX2_implied]
def wsL_law0_r19 : List Cond := [Cond.code yX2_implied cX2_implied 6 (some .int), Cond.methodLink RL 111 yX3_implied, Cond.instanceMethod yX3_implied, Cond.selects RX3 yX3_implied yX3_implied, Cond.code yX3_implied cX3_implied 4 (some .int), Cond.methodLink RL 112 yX2_meet, Cond.instanceMethod yX2_meet, Cond.selects RX2 yX2_meet yX2_meet, Cond.code yX2_meet cX2_meet 6 (some .int), Cond.methodLink RX2 174 yX2_canAsk, Cond.static yX2_canAsk, Cond.code yX2_canAsk cX2_canAsk 3 (some .boolean), Cond.constant RX2 184 (999999999), Cond.methodLink RX2 177 yX2_takeCheapest, Cond.instanceMethod yX2_takeCheapest, Cond.selects RX2 yX2_takeCheapest yX2_takeCheapest, Cond.code yX2_takeCheapest cX2_takeCheapest 8 (some .boolean), Cond.methodLink RX2 252 Lib.Math.min.name, Cond.static Lib.Math.min.name, Cond.code Lib.Math.min.name Lib.Math.min.code 2 (some .int), Cond.methodLink RX2 243 yJ7_fill_53178, Cond.methodLink RX2 249 yX2_leastCost, Cond.instanceMethod yX2_leastCost, Cond.selects RX2 yX2_leastCost yX2_leastCost]
def wsL_law0_r20 : List Cond := [Cond.code yX2_leastCost cX2_leastCost 4 (some .int), Cond.methodLink RL 116 yX3_meet, Cond.instanceMethod yX3_meet, Cond.selects RX3 yX3_meet yX3_meet, Cond.code yX3_meet cX3_meet 6 (some .int), Cond.methodLink RX3 170 yX3_isMeeting, Cond.static yX3_isMeeting, Cond.code yX3_isMeeting cX3_isMeeting 3 (some .boolean), Cond.constantLong RX3 168 (999999999), Cond.methodLink RX3 173 yX3_meets, Cond.instanceMethod yX3_meets, Cond.selects RX3 yX3_meets yX3_meets, Cond.code yX3_meets cX3_meets 8 (some .boolean), Cond.methodLink RL 117 yL_cost, Cond.static yL_cost, Cond.codeWith yL_cost cL_cost 6 (some .int) [(0, 11, 14, 13)], Cond.methodLink RL 19 yX2_cost, Cond.instanceMethod yX2_cost, Cond.selects RX2 yX2_cost yX2_cost, Cond.code yX2_cost cX2_cost 7 (some .long), Cond.methodLink RL 120 yX3_cost, Cond.instanceMethod yX3_cost, Cond.selects RX3 yX3_cost yX3_cost, Cond.code yX3_cost cX3_cost 7 (some .long)]
def wsL_law0_r21 : List Cond := [Cond.methodLink RL 121 yX2_tree, Cond.instanceMethod yX2_tree, Cond.selects RX2 yX2_tree yX2_tree, Cond.code yX2_tree cX2_tree 6 (some .boolean), Cond.constant RX2 182 (-1000000), Cond.constant RX2 183 (1000000), Cond.methodLink RX2 185 yX1_change, Cond.instanceMethod yX1_change, Cond.selects RX1 yX1_change yX1_change, Cond.code yX1_change cX1_change 6 (some .boolean), Cond.fieldLink RX1 49 "DeliveryBasket$Lattice" "days" "I", Cond.fieldLink RX1 52 "DeliveryBasket$Lattice" "carry" "I", Cond.methodLink RL 125 yX3_tree, Cond.instanceMethod yX3_tree, Cond.selects RX3 yX3_tree yX3_tree, Cond.code yX3_tree cX3_tree 6 (some .boolean), Cond.constantLong RX3 176 (20), Cond.constantLong RX3 178 (50), Cond.constantLong RX3 180 (-1000000), Cond.constantLong RX3 182 (1000000), Cond.methodLink RL 126 yX2_rate, Cond.instanceMethod yX2_rate, Cond.selects RX2 yX2_rate yX2_rate, Cond.code yX2_rate cX2_rate 3 (some .int)]
def wsL_law0_r22 : List Cond := [Cond.methodLink RX2 189 yX1_hasNode, Cond.instanceMethod yX1_hasNode, Cond.selects RX1 yX1_hasNode yX1_hasNode, Cond.code yX1_hasNode cX1_hasNode 3 (some .boolean), Cond.methodLink RX1 59 yX1_hasDay, Cond.instanceMethod yX1_hasDay, Cond.selects RX1 yX1_hasDay yX1_hasDay, Cond.code yX1_hasDay cX1_hasDay 2 (some .boolean), Cond.methodLink RX2 192 yX1_level, Cond.instanceMethod yX1_level, Cond.selects RX1 yX1_level yX1_level, Cond.code yX1_level cX1_level 3 (some .int), Cond.methodLink RX2 195 yX1_rateAt, Cond.instanceMethod yX1_rateAt, Cond.selects RX1 yX1_rateAt yX1_rateAt, Cond.code yX1_rateAt cX1_rateAt 2 (some .int), Cond.methodLink RX1 63 Lib.Math.min.name, Cond.methodLink RX1 69 Lib.Math.max.name, Cond.methodLink RL 129 yX3_rate, Cond.instanceMethod yX3_rate, Cond.selects RX3 yX3_rate yX3_rate, Cond.code yX3_rate cX3_rate 3 (some .int), Cond.methodLink RX3 184 yX3_isNode, Cond.instanceMethod yX3_isNode]
def wsL_law0_r23 : List Cond := [Cond.selects RX3 yX3_isNode yX3_isNode, Cond.code yX3_isNode cX3_isNode 3 (some .boolean), Cond.methodLink RX3 188 yX3_rate1, Cond.instanceMethod yX3_rate1, Cond.selects RX3 yX3_rate1 yX3_rate1, Cond.code yX3_rate1 cX3_rate1 4 (some .int), Cond.methodLink RL 130 yL_value, Cond.static yL_value, Cond.codeWith yL_value cL_value 5 (some .int) [(0, 9, 12, 13)], Cond.methodLink RL 23 yX2_value, Cond.instanceMethod yX2_value, Cond.selects RX2 yX2_value yX2_value, Cond.code yX2_value cX2_value 4 (some .long), Cond.fieldLink RX2 204 "DeliveryBasket$Lattice" "values" "[[J", Cond.methodLink RX2 200 yX2_valueBy, Cond.instanceMethod yX2_valueBy, Cond.selects RX2 yX2_valueBy yX2_valueBy, Cond.code yX2_valueBy cX2_valueBy 2 (some .long), Cond.methodLink RX2 220 yX1_layPrices, Cond.instanceMethod yX1_layPrices, Cond.selects RX1 yX1_layPrices yX1_layPrices, Cond.code yX1_layPrices cX1_layPrices 6 none, Cond.methodLink RX1 72 yX1_rateAt, Cond.methodLink RX1 76 yX0_priceAt]
def wsL_law0_r24 : List Cond := [Cond.methodLink RX2 223 yX1_layNow, Cond.instanceMethod yX1_layNow, Cond.selects RX1 yX1_layNow yX1_layNow, Cond.code yX1_layNow cX1_layNow 6 none, Cond.methodLink RX1 85 yX0_invoiceBy, Cond.methodLink RX1 89 yX1_bestOn, Cond.instanceMethod yX1_bestOn, Cond.selects RX1 yX1_bestOn yX1_bestOn, Cond.code yX1_bestOn cX1_bestOn 9 (some .int), Cond.methodLink RX2 227 yX1_rollBack, Cond.instanceMethod yX1_rollBack, Cond.selects RX1 yX1_rollBack yX1_rollBack, Cond.code yX1_rollBack cX1_rollBack 7 (some .long), Cond.constantLong RX1 96 (2), Cond.methodLink RX1 92 yX1_deliverAt, Cond.instanceMethod yX1_deliverAt, Cond.selects RX1 yX1_deliverAt yX1_deliverAt, Cond.code yX1_deliverAt cX1_deliverAt 4 none, Cond.methodLink RX1 102 yX1_level, Cond.methodLink RX1 98 yJ9_floorDiv_f86c9, Cond.static yJ9_floorDiv_f86c9, Cond.initialized RJ9, Cond.code yJ9_floorDiv_f86c9 cJ9_floorDiv_f86c9 6 (some .long), Cond.methodLink RL 132 yX3_value]
def wsL_law0_r25 : List Cond := [Cond.instanceMethod yX3_value, Cond.selects RX3 yX3_value yX3_value, Cond.code yX3_value cX3_value 3 (some .long), Cond.methodLink RX3 199 yX3_laysTree, Cond.instanceMethod yX3_laysTree, Cond.selects RX3 yX3_laysTree yX3_laysTree, Cond.code yX3_laysTree cX3_laysTree 6 none, Cond.methodLink RX3 191 yX3_laysNow, Cond.instanceMethod yX3_laysNow, Cond.selects RX3 yX3_laysNow yX3_laysNow, Cond.code yX3_laysNow cX3_laysNow 7 none, Cond.methodLink RX3 195 yX3_down, Cond.static yX3_down, Cond.code yX3_down cX3_down 6 (some .long), Cond.methodLink RL 133 yX2_act, Cond.instanceMethod yX2_act, Cond.selects RX2 yX2_act yX2_act, Cond.code yX2_act cX2_act 4 (some .int), Cond.fieldLink RX2 208 "DeliveryBasket$Lattice" "acts" "[[I", Cond.methodLink RL 136 yX3_act, Cond.instanceMethod yX3_act, Cond.selects RX3 yX3_act yX3_act, Cond.code yX3_act cX3_act 3 (some .int), Cond.methodLink RX3 203 yX3_delivers]
def wsL_law0_r26 : List Cond := [Cond.instanceMethod yX3_delivers, Cond.selects RX3 yX3_delivers yX3_delivers, Cond.code yX3_delivers cX3_delivers 3 (some .boolean), Cond.methodLink RL 137 yX2_path, Cond.instanceMethod yX2_path, Cond.selects RX2 yX2_path yX2_path, Cond.code yX2_path cX2_path 7 (some .int), Cond.methodLink RL 141 yX3_path, Cond.instanceMethod yX3_path, Cond.selects RX3 yX3_path yX3_path, Cond.code yX3_path cX3_path 5 (some .int), Cond.methodLink RL 142 yX2_often, Cond.instanceMethod yX2_often, Cond.selects RX2 yX2_often yX2_often, Cond.code yX2_often cX2_often 3 (some .int), Cond.methodLink RX2 212 yX1_hasDay, Cond.methodLink RX2 215 yX1_pathsThatEndOn, Cond.instanceMethod yX1_pathsThatEndOn, Cond.selects RX1 yX1_pathsThatEndOn yX1_pathsThatEndOn, Cond.code yX1_pathsThatEndOn cX1_pathsThatEndOn 4 (some .int), Cond.methodLink RX1 105 yJ7_fill_53178, Cond.methodLink RL 145 yX3_often, Cond.instanceMethod yX3_often, Cond.selects RX3 yX3_often yX3_often]
def wsL_law0_r27 : List Cond := [Cond.code yX3_often cX3_often 6 (some .int), Cond.methodLink RL 146 yL_fixed, Cond.static yL_fixed, Cond.codeWith yL_fixed cL_fixed 4 (some .int) [(0, 8, 11, 13)], Cond.methodLink RL 26 yX2_fixed, Cond.instanceMethod yX2_fixed, Cond.selects RX2 yX2_fixed yX2_fixed, Cond.code yX2_fixed cX2_fixed 3 (some .long), Cond.methodLink RL 149 yX3_fixed, Cond.instanceMethod yX3_fixed, Cond.selects RX3 yX3_fixed yX3_fixed, Cond.code yX3_fixed cX3_fixed 2 (some .long), Cond.methodLink RL 150 yL_only, Cond.static yL_only, Cond.codeWith yL_only cL_only 4 (some .int) [(0, 8, 11, 13)], Cond.methodLink RL 30 yX2_only, Cond.instanceMethod yX2_only, Cond.selects RX2 yX2_only yX2_only, Cond.code yX2_only cX2_only 2 (some .long), Cond.methodLink RL 152 yX3_only, Cond.instanceMethod yX3_only, Cond.selects RX3 yX3_only yX3_only, Cond.code yX3_only cX3_only 2 (some .long), Cond.methodLink RL 153 yL_without]
def wsL_law0_r28 : List Cond := [Cond.static yL_without, Cond.codeWith yL_without cL_without 4 (some .int) [(0, 8, 11, 13)], Cond.methodLink RL 33 yX2_without, Cond.instanceMethod yX2_without, Cond.selects RX2 yX2_without yX2_without, Cond.code yX2_without cX2_without 4 (some .long), Cond.methodLink RL 155 yX3_without, Cond.instanceMethod yX3_without, Cond.selects RX3 yX3_without yX3_without, Cond.code yX3_without cX3_without 5 (some .long), Cond.methodLink RL 156 yX2_fair, Cond.instanceMethod yX2_fair, Cond.selects RX2 yX2_fair yX2_fair, Cond.code yX2_fair cX2_fair 4 (some .int), Cond.constant RX2 235 (536870912), Cond.methodLink RL 159 yX3_fair, Cond.instanceMethod yX3_fair, Cond.selects RX3 yX3_fair yX3_fair, Cond.code yX3_fair cX3_fair 4 (some .int), Cond.constant RX3 206 (999999999), Cond.methodLink RX3 207 yX3_isFair, Cond.instanceMethod yX3_isFair, Cond.selects RX3 yX3_isFair yX3_isFair, Cond.code yX3_isFair cX3_isFair 3 (some .boolean)]
def wsL_law0 : List Cond := (wsL_law0_r1 ++ (wsL_law0_r2 ++ (wsL_law0_r3 ++ (wsL_law0_r4 ++ (wsL_law0_r5 ++ (wsL_law0_r6 ++ (wsL_law0_r7 ++ (wsL_law0_r8 ++ (wsL_law0_r9 ++ (wsL_law0_r10 ++ (wsL_law0_r11 ++ (wsL_law0_r12 ++ (wsL_law0_r13 ++ (wsL_law0_r14 ++ (wsL_law0_r15 ++ (wsL_law0_r16 ++ (wsL_law0_r17 ++ (wsL_law0_r18 ++ (wsL_law0_r19 ++ (wsL_law0_r20 ++ (wsL_law0_r21 ++ (wsL_law0_r22 ++ (wsL_law0_r23 ++ (wsL_law0_r24 ++ (wsL_law0_r25 ++ (wsL_law0_r26 ++ (wsL_law0_r27 ++ wsL_law0_r28))))))))))))))))))))))))))) ++ wsX20 ++ wsX30 ++ wsX10 ++ wsX00 ++ ([] : List Cond)
def wsL_law : List Cond := wsL_law0 ++ (vx_atS RX2 80 "java/util/NoSuchElementException" ["java/lang/RuntimeException", "java/lang/Exception"]).filter goodWord
abbrev vwCl : List vw_C := [(RX0, TX0, 10), (RX1, TX1, 12), (RX2, TX2, 9), (RX3, TX3, 20)]
end
section
theorem dX0_init_0 : decode cX0_init 0 = .ok (.aload_n 0, 1) := by decide +kernel
theorem dX0_init_1 : decode cX0_init 1 = .ok (.invokespecial 3, 3) := by decide +kernel
theorem dX0_init_4 : decode cX0_init 4 = .ok (.aload_n 0, 1) := by decide +kernel
theorem dX0_init_5 : decode cX0_init 5 = .ok (.bipush 41, 2) := by decide +kernel
theorem dX0_init_7 : decode cX0_init 7 = .ok (.newarray .int, 2) := by decide +kernel
theorem dX0_init_9 : decode cX0_init 9 = .ok (.putfield 9, 3) := by decide +kernel
theorem dX0_init_12 : decode cX0_init 12 = .ok (.return_, 1) := by decide +kernel
set_option maxRecDepth 20000 in
theorem ggX0_become_X0_layFlows : GoodIn wsX0_become wsX0_layFlows := goodIn_r _ [13, 14, 3, 15, 16, 17, 18, 19, 12, 20, 1, 4, 21, 22, 23, 24, 2, 29, 30, 31, 32, 33, 34, 35, 36, 37, 38] (by decide +kernel) (by decide +kernel)
set_option maxRecDepth 20000 in
theorem gX0_become_X0_layFlows : GoodIn wsX0_become (wsV RX0 37 RX0 yX0_layFlows wsX0_layFlows) := goodIn_app (goodIn_of _ (by decide +kernel)) ggX0_become_X0_layFlows
set_option maxRecDepth 20000 in
theorem ggX0_become_J7_fill_53178 : GoodIn wsX0_become wsJ7_fill_53178 := goodIn_r _ [28] (by decide +kernel) (by decide +kernel)
set_option maxRecDepth 20000 in
theorem gX0_become_J7_fill_53178 : GoodIn wsX0_become (va_wsS RX0 43 yJ7_fill_53178 wsJ7_fill_53178) := goodIn_app (goodIn_of _ (by decide +kernel)) ggX0_become_J7_fill_53178
theorem dX0_become_0 : decode cX0_become 0 = .ok (.aload_n 0, 1) := by decide +kernel
theorem dX0_become_1 : decode cX0_become 1 = .ok (.iload_n 1, 1) := by decide +kernel
theorem dX0_become_2 : decode cX0_become 2 = .ok (.putfield 15, 3) := by decide +kernel
theorem dX0_become_5 : decode cX0_become 5 = .ok (.aload_n 0, 1) := by decide +kernel
theorem dX0_become_6 : decode cX0_become 6 = .ok (.iload_n 2, 1) := by decide +kernel
theorem dX0_become_7 : decode cX0_become 7 = .ok (.putfield 19, 3) := by decide +kernel
theorem dX0_become_10 : decode cX0_become 10 = .ok (.aload_n 0, 1) := by decide +kernel
theorem dX0_become_11 : decode cX0_become 11 = .ok (.iload_n 3, 1) := by decide +kernel
theorem dX0_become_12 : decode cX0_become 12 = .ok (.putfield 22, 3) := by decide +kernel
theorem dX0_become_15 : decode cX0_become 15 = .ok (.aload_n 0, 1) := by decide +kernel
theorem dX0_become_16 : decode cX0_become 16 = .ok (.iload 4, 2) := by decide +kernel
theorem dX0_become_18 : decode cX0_become 18 = .ok (.putfield 25, 3) := by decide +kernel
theorem dX0_become_21 : decode cX0_become 21 = .ok (.aload_n 0, 1) := by decide +kernel
theorem dX0_become_22 : decode cX0_become 22 = .ok (.iload 5, 2) := by decide +kernel
theorem dX0_become_24 : decode cX0_become 24 = .ok (.putfield 28, 3) := by decide +kernel
theorem dX0_become_27 : decode cX0_become 27 = .ok (.aload_n 0, 1) := by decide +kernel
theorem dX0_become_28 : decode cX0_become 28 = .ok (.iconst 0, 1) := by decide +kernel
theorem dX0_become_29 : decode cX0_become 29 = .ok (.putfield 31, 3) := by decide +kernel
theorem dX0_become_32 : decode cX0_become 32 = .ok (.aload_n 0, 1) := by decide +kernel
theorem dX0_become_33 : decode cX0_become 33 = .ok (.iconst 0, 1) := by decide +kernel
theorem dX0_become_34 : decode cX0_become 34 = .ok (.putfield 34, 3) := by decide +kernel
theorem dX0_become_37 : decode cX0_become 37 = .ok (.aload_n 0, 1) := by decide +kernel
theorem dX0_become_38 : decode cX0_become 38 = .ok (.invokevirtual 37, 3) := by decide +kernel
theorem dX0_become_41 : decode cX0_become 41 = .ok (.aload_n 0, 1) := by decide +kernel
theorem dX0_become_42 : decode cX0_become 42 = .ok (.getfield 40, 3) := by decide +kernel
theorem dX0_become_45 : decode cX0_become 45 = .ok (.ifnull 11, 3) := by decide +kernel
theorem dX0_become_48 : decode cX0_become 48 = .ok (.aload_n 0, 1) := by decide +kernel
theorem dX0_become_49 : decode cX0_become 49 = .ok (.getfield 40, 3) := by decide +kernel
theorem dX0_become_52 : decode cX0_become 52 = .ok (.iconst 0, 1) := by decide +kernel
theorem dX0_become_53 : decode cX0_become 53 = .ok (.invokestatic 43, 3) := by decide +kernel
theorem dX0_become_56 : decode cX0_become 56 = .ok (.return_, 1) := by decide +kernel
set_option maxRecDepth 20000 in
theorem ggX0_layFlows_X0_paidBack : GoodIn wsX0_layFlows wsX0_paidBack := goodIn_r _ [9, 2, 10, 11, 1, 17, 18, 19, 20, 21, 22, 23, 24, 25, 26] (by decide +kernel) (by decide +kernel)
set_option maxRecDepth 20000 in
theorem gX0_layFlows_X0_paidBack : GoodIn wsX0_layFlows (wsV RX0 50 RX0 yX0_paidBack wsX0_paidBack) := goodIn_app (goodIn_of _ (by decide +kernel)) ggX0_layFlows_X0_paidBack
set_option maxRecDepth 20000 in
theorem ggX0_layFlows_X0_couponIn : GoodIn wsX0_layFlows wsX0_couponIn := goodIn_r _ [15, 10, 16, 11, 17, 18, 19, 20, 21, 22, 23, 24, 25, 26] (by decide +kernel) (by decide +kernel)
set_option maxRecDepth 20000 in
theorem gX0_layFlows_X0_couponIn : GoodIn wsX0_layFlows (wsV RX0 54 RX0 yX0_couponIn wsX0_couponIn) := goodIn_app (goodIn_of _ (by decide +kernel)) ggX0_layFlows_X0_couponIn
theorem dX0_layFlows_0 : decode cX0_layFlows 0 = .ok (.ldc 49, 2) := by decide +kernel
theorem dX0_layFlows_2 : decode cX0_layFlows 2 = .ok (.istore_n 1, 1) := by decide +kernel
theorem dX0_layFlows_3 : decode cX0_layFlows 3 = .ok (.iconst 1, 1) := by decide +kernel
theorem dX0_layFlows_4 : decode cX0_layFlows 4 = .ok (.istore_n 2, 1) := by decide +kernel
theorem dX0_layFlows_5 : decode cX0_layFlows 5 = .ok (.iload_n 2, 1) := by decide +kernel
theorem dX0_layFlows_6 : decode cX0_layFlows 6 = .ok (.aload_n 0, 1) := by decide +kernel
theorem dX0_layFlows_7 : decode cX0_layFlows 7 = .ok (.getfield 22, 3) := by decide +kernel
theorem dX0_layFlows_10 : decode cX0_layFlows 10 = .ok (.if_icmp .gt 51, 3) := by decide +kernel
theorem dX0_layFlows_13 : decode cX0_layFlows 13 = .ok (.iload_n 2, 1) := by decide +kernel
theorem dX0_layFlows_14 : decode cX0_layFlows 14 = .ok (.aload_n 0, 1) := by decide +kernel
theorem dX0_layFlows_15 : decode cX0_layFlows 15 = .ok (.getfield 9, 3) := by decide +kernel
theorem dX0_layFlows_18 : decode cX0_layFlows 18 = .ok (.arraylength, 1) := by decide +kernel
theorem dX0_layFlows_19 : decode cX0_layFlows 19 = .ok (.if_icmp .ge 42, 3) := by decide +kernel
theorem dX0_layFlows_22 : decode cX0_layFlows 22 = .ok (.aload_n 0, 1) := by decide +kernel
theorem dX0_layFlows_23 : decode cX0_layFlows 23 = .ok (.iload_n 2, 1) := by decide +kernel
theorem dX0_layFlows_24 : decode cX0_layFlows 24 = .ok (.iload_n 1, 1) := by decide +kernel
theorem dX0_layFlows_25 : decode cX0_layFlows 25 = .ok (.invokevirtual 50, 3) := by decide +kernel
theorem dX0_layFlows_28 : decode cX0_layFlows 28 = .ok (.istore_n 3, 1) := by decide +kernel
theorem dX0_layFlows_29 : decode cX0_layFlows 29 = .ok (.aload_n 0, 1) := by decide +kernel
theorem dX0_layFlows_30 : decode cX0_layFlows 30 = .ok (.getfield 9, 3) := by decide +kernel
theorem dX0_layFlows_33 : decode cX0_layFlows 33 = .ok (.iload_n 2, 1) := by decide +kernel
theorem dX0_layFlows_34 : decode cX0_layFlows 34 = .ok (.aload_n 0, 1) := by decide +kernel
theorem dX0_layFlows_35 : decode cX0_layFlows 35 = .ok (.iload_n 2, 1) := by decide +kernel
theorem dX0_layFlows_36 : decode cX0_layFlows 36 = .ok (.invokevirtual 54, 3) := by decide +kernel
theorem dX0_layFlows_39 : decode cX0_layFlows 39 = .ok (.i2l, 1) := by decide +kernel
theorem dX0_layFlows_40 : decode cX0_layFlows 40 = .ok (.iload_n 1, 1) := by decide +kernel
theorem dX0_layFlows_41 : decode cX0_layFlows 41 = .ok (.i2l, 1) := by decide +kernel
theorem dX0_layFlows_42 : decode cX0_layFlows 42 = .ok (.lmul, 1) := by decide +kernel
theorem dX0_layFlows_43 : decode cX0_layFlows 43 = .ok (.ldc2_w 58, 3) := by decide +kernel
theorem dX0_layFlows_46 : decode cX0_layFlows 46 = .ok (.ldiv, 1) := by decide +kernel
theorem dX0_layFlows_47 : decode cX0_layFlows 47 = .ok (.l2i, 1) := by decide +kernel
theorem dX0_layFlows_48 : decode cX0_layFlows 48 = .ok (.iload_n 3, 1) := by decide +kernel
theorem dX0_layFlows_49 : decode cX0_layFlows 49 = .ok (.iadd, 1) := by decide +kernel
theorem dX0_layFlows_50 : decode cX0_layFlows 50 = .ok (.iastore, 1) := by decide +kernel
theorem dX0_layFlows_51 : decode cX0_layFlows 51 = .ok (.iload_n 1, 1) := by decide +kernel
theorem dX0_layFlows_52 : decode cX0_layFlows 52 = .ok (.iload_n 3, 1) := by decide +kernel
theorem dX0_layFlows_53 : decode cX0_layFlows 53 = .ok (.isub, 1) := by decide +kernel
theorem dX0_layFlows_54 : decode cX0_layFlows 54 = .ok (.istore_n 1, 1) := by decide +kernel
theorem dX0_layFlows_55 : decode cX0_layFlows 55 = .ok (.iinc 2 1, 3) := by decide +kernel
theorem dX0_layFlows_58 : decode cX0_layFlows 58 = .ok (.goto (-53), 3) := by decide +kernel
theorem dX0_layFlows_61 : decode cX0_layFlows 61 = .ok (.return_, 1) := by decide +kernel
theorem dX0_couponIn_0 : decode cX0_couponIn 0 = .ok (.aload_n 0, 1) := by decide +kernel
theorem dX0_couponIn_1 : decode cX0_couponIn 1 = .ok (.getfield 15, 3) := by decide +kernel
theorem dX0_couponIn_4 : decode cX0_couponIn 4 = .ok (.iconst 1, 1) := by decide +kernel
theorem dX0_couponIn_5 : decode cX0_couponIn 5 = .ok (.if_icmp .ne 19, 3) := by decide +kernel
theorem dX0_couponIn_8 : decode cX0_couponIn 8 = .ok (.aload_n 0, 1) := by decide +kernel
theorem dX0_couponIn_9 : decode cX0_couponIn 9 = .ok (.getfield 19, 3) := by decide +kernel
theorem dX0_couponIn_12 : decode cX0_couponIn 12 = .ok (.aload_n 0, 1) := by decide +kernel
theorem dX0_couponIn_13 : decode cX0_couponIn 13 = .ok (.getfield 25, 3) := by decide +kernel
theorem dX0_couponIn_16 : decode cX0_couponIn 16 = .ok (.iload_n 1, 1) := by decide +kernel
theorem dX0_couponIn_17 : decode cX0_couponIn 17 = .ok (.iconst 1, 1) := by decide +kernel
theorem dX0_couponIn_18 : decode cX0_couponIn 18 = .ok (.isub, 1) := by decide +kernel
theorem dX0_couponIn_19 : decode cX0_couponIn 19 = .ok (.imul, 1) := by decide +kernel
theorem dX0_couponIn_20 : decode cX0_couponIn 20 = .ok (.iadd, 1) := by decide +kernel
theorem dX0_couponIn_21 : decode cX0_couponIn 21 = .ok (.goto 7, 3) := by decide +kernel
theorem dX0_couponIn_24 : decode cX0_couponIn 24 = .ok (.aload_n 0, 1) := by decide +kernel
theorem dX0_couponIn_25 : decode cX0_couponIn 25 = .ok (.getfield 19, 3) := by decide +kernel
theorem dX0_couponIn_28 : decode cX0_couponIn 28 = .ok (.ireturn, 1) := by decide +kernel
theorem dX0_paidBack_0 : decode cX0_paidBack 0 = .ok (.iload_n 1, 1) := by decide +kernel
theorem dX0_paidBack_1 : decode cX0_paidBack 1 = .ok (.aload_n 0, 1) := by decide +kernel
theorem dX0_paidBack_2 : decode cX0_paidBack 2 = .ok (.getfield 22, 3) := by decide +kernel
theorem dX0_paidBack_5 : decode cX0_paidBack 5 = .ok (.if_icmp .ne 5, 3) := by decide +kernel
theorem dX0_paidBack_8 : decode cX0_paidBack 8 = .ok (.iload_n 2, 1) := by decide +kernel
theorem dX0_paidBack_9 : decode cX0_paidBack 9 = .ok (.ireturn, 1) := by decide +kernel
theorem dX0_paidBack_10 : decode cX0_paidBack 10 = .ok (.aload_n 0, 1) := by decide +kernel
theorem dX0_paidBack_11 : decode cX0_paidBack 11 = .ok (.getfield 15, 3) := by decide +kernel
theorem dX0_paidBack_14 : decode cX0_paidBack 14 = .ok (.iconst 2, 1) := by decide +kernel
theorem dX0_paidBack_15 : decode cX0_paidBack 15 = .ok (.if_icmp .ne 31, 3) := by decide +kernel
theorem dX0_paidBack_18 : decode cX0_paidBack 18 = .ok (.aload_n 0, 1) := by decide +kernel
theorem dX0_paidBack_19 : decode cX0_paidBack 19 = .ok (.getfield 25, 3) := by decide +kernel
theorem dX0_paidBack_22 : decode cX0_paidBack 22 = .ok (.ifCond .le 24, 3) := by decide +kernel
theorem dX0_paidBack_25 : decode cX0_paidBack 25 = .ok (.iload_n 1, 1) := by decide +kernel
theorem dX0_paidBack_26 : decode cX0_paidBack 26 = .ok (.aload_n 0, 1) := by decide +kernel
theorem dX0_paidBack_27 : decode cX0_paidBack 27 = .ok (.getfield 22, 3) := by decide +kernel
theorem dX0_paidBack_30 : decode cX0_paidBack 30 = .ok (.aload_n 0, 1) := by decide +kernel
theorem dX0_paidBack_31 : decode cX0_paidBack 31 = .ok (.getfield 25, 3) := by decide +kernel
theorem dX0_paidBack_34 : decode cX0_paidBack 34 = .ok (.isub, 1) := by decide +kernel
theorem dX0_paidBack_35 : decode cX0_paidBack 35 = .ok (.if_icmp .le 11, 3) := by decide +kernel
theorem dX0_paidBack_38 : decode cX0_paidBack 38 = .ok (.ldc 49, 2) := by decide +kernel
theorem dX0_paidBack_40 : decode cX0_paidBack 40 = .ok (.aload_n 0, 1) := by decide +kernel
theorem dX0_paidBack_41 : decode cX0_paidBack 41 = .ok (.getfield 25, 3) := by decide +kernel
theorem dX0_paidBack_44 : decode cX0_paidBack 44 = .ok (.idiv, 1) := by decide +kernel
theorem dX0_paidBack_45 : decode cX0_paidBack 45 = .ok (.ireturn, 1) := by decide +kernel
theorem dX0_paidBack_46 : decode cX0_paidBack 46 = .ok (.iconst 0, 1) := by decide +kernel
theorem dX0_paidBack_47 : decode cX0_paidBack 47 = .ok (.ireturn, 1) := by decide +kernel
set_option maxRecDepth 20000 in
theorem ggX0_changeSpread_X2_within : GoodIn wsX0_changeSpread wsX2_within := goodIn_r _ [4] (by decide +kernel) (by decide +kernel)
set_option maxRecDepth 20000 in
theorem gX0_changeSpread_X2_within_n60 : GoodIn wsX0_changeSpread (wsX2_within) := ggX0_changeSpread_X2_within
theorem dX0_changeSpread_0 : decode cX0_changeSpread 0 = .ok (.iload_n 1, 1) := by decide +kernel
theorem dX0_changeSpread_1 : decode cX0_changeSpread 1 = .ok (.aload_n 0, 1) := by decide +kernel
theorem dX0_changeSpread_2 : decode cX0_changeSpread 2 = .ok (.getfield 28, 3) := by decide +kernel
theorem dX0_changeSpread_5 : decode cX0_changeSpread 5 = .ok (.if_icmp .eq 16, 3) := by decide +kernel
theorem dX0_changeSpread_8 : decode cX0_changeSpread 8 = .ok (.iload_n 1, 1) := by decide +kernel
theorem dX0_changeSpread_9 : decode cX0_changeSpread 9 = .ok (.sipush (-200), 3) := by decide +kernel
theorem dX0_changeSpread_12 : decode cX0_changeSpread 12 = .ok (.sipush 200, 3) := by decide +kernel
theorem dX0_changeSpread_15 : decode cX0_changeSpread 15 = .ok (.invokestatic 60, 3) := by decide +kernel
theorem dX0_changeSpread_18 : decode cX0_changeSpread 18 = .ok (.ifCond .ne 5, 3) := by decide +kernel
theorem dX0_changeSpread_21 : decode cX0_changeSpread 21 = .ok (.iconst 0, 1) := by decide +kernel
theorem dX0_changeSpread_22 : decode cX0_changeSpread 22 = .ok (.ireturn, 1) := by decide +kernel
theorem dX0_changeSpread_23 : decode cX0_changeSpread 23 = .ok (.aload_n 0, 1) := by decide +kernel
theorem dX0_changeSpread_24 : decode cX0_changeSpread 24 = .ok (.iload_n 1, 1) := by decide +kernel
theorem dX0_changeSpread_25 : decode cX0_changeSpread 25 = .ok (.putfield 28, 3) := by decide +kernel
theorem dX0_changeSpread_28 : decode cX0_changeSpread 28 = .ok (.iconst 1, 1) := by decide +kernel
theorem dX0_changeSpread_29 : decode cX0_changeSpread 29 = .ok (.ireturn, 1) := by decide +kernel
set_option maxRecDepth 20000 in
theorem ggX0_changeStock_X2_within : GoodIn wsX0_changeStock wsX2_within := goodIn_r _ [4] (by decide +kernel) (by decide +kernel)
set_option maxRecDepth 20000 in
theorem gX0_changeStock_X2_within_n60 : GoodIn wsX0_changeStock (wsX2_within) := ggX0_changeStock_X2_within
theorem dX0_changeStock_0 : decode cX0_changeStock 0 = .ok (.iload_n 1, 1) := by decide +kernel
theorem dX0_changeStock_1 : decode cX0_changeStock 1 = .ok (.aload_n 0, 1) := by decide +kernel
theorem dX0_changeStock_2 : decode cX0_changeStock 2 = .ok (.getfield 31, 3) := by decide +kernel
theorem dX0_changeStock_5 : decode cX0_changeStock 5 = .ok (.if_icmp .eq 13, 3) := by decide +kernel
theorem dX0_changeStock_8 : decode cX0_changeStock 8 = .ok (.iload_n 1, 1) := by decide +kernel
theorem dX0_changeStock_9 : decode cX0_changeStock 9 = .ok (.iconst 0, 1) := by decide +kernel
theorem dX0_changeStock_10 : decode cX0_changeStock 10 = .ok (.bipush 99, 2) := by decide +kernel
theorem dX0_changeStock_12 : decode cX0_changeStock 12 = .ok (.invokestatic 60, 3) := by decide +kernel
theorem dX0_changeStock_15 : decode cX0_changeStock 15 = .ok (.ifCond .ne 5, 3) := by decide +kernel
theorem dX0_changeStock_18 : decode cX0_changeStock 18 = .ok (.iconst 0, 1) := by decide +kernel
theorem dX0_changeStock_19 : decode cX0_changeStock 19 = .ok (.ireturn, 1) := by decide +kernel
theorem dX0_changeStock_20 : decode cX0_changeStock 20 = .ok (.aload_n 0, 1) := by decide +kernel
theorem dX0_changeStock_21 : decode cX0_changeStock 21 = .ok (.iload_n 1, 1) := by decide +kernel
theorem dX0_changeStock_22 : decode cX0_changeStock 22 = .ok (.putfield 31, 3) := by decide +kernel
theorem dX0_changeStock_25 : decode cX0_changeStock 25 = .ok (.iconst 1, 1) := by decide +kernel
theorem dX0_changeStock_26 : decode cX0_changeStock 26 = .ok (.ireturn, 1) := by decide +kernel
set_option maxRecDepth 20000 in
theorem ggX0_changeBarred_X2_within : GoodIn wsX0_changeBarred wsX2_within := goodIn_r _ [4] (by decide +kernel) (by decide +kernel)
set_option maxRecDepth 20000 in
theorem gX0_changeBarred_X2_within_n60 : GoodIn wsX0_changeBarred (wsX2_within) := ggX0_changeBarred_X2_within
theorem dX0_changeBarred_0 : decode cX0_changeBarred 0 = .ok (.iload_n 1, 1) := by decide +kernel
theorem dX0_changeBarred_1 : decode cX0_changeBarred 1 = .ok (.aload_n 0, 1) := by decide +kernel
theorem dX0_changeBarred_2 : decode cX0_changeBarred 2 = .ok (.getfield 34, 3) := by decide +kernel
theorem dX0_changeBarred_5 : decode cX0_changeBarred 5 = .ok (.if_icmp .eq 12, 3) := by decide +kernel
theorem dX0_changeBarred_8 : decode cX0_changeBarred 8 = .ok (.iload_n 1, 1) := by decide +kernel
theorem dX0_changeBarred_9 : decode cX0_changeBarred 9 = .ok (.iconst 0, 1) := by decide +kernel
theorem dX0_changeBarred_10 : decode cX0_changeBarred 10 = .ok (.iconst 1, 1) := by decide +kernel
theorem dX0_changeBarred_11 : decode cX0_changeBarred 11 = .ok (.invokestatic 60, 3) := by decide +kernel
theorem dX0_changeBarred_14 : decode cX0_changeBarred 14 = .ok (.ifCond .ne 5, 3) := by decide +kernel
theorem dX0_changeBarred_17 : decode cX0_changeBarred 17 = .ok (.iconst 0, 1) := by decide +kernel
theorem dX0_changeBarred_18 : decode cX0_changeBarred 18 = .ok (.ireturn, 1) := by decide +kernel
theorem dX0_changeBarred_19 : decode cX0_changeBarred 19 = .ok (.aload_n 0, 1) := by decide +kernel
theorem dX0_changeBarred_20 : decode cX0_changeBarred 20 = .ok (.iload_n 1, 1) := by decide +kernel
theorem dX0_changeBarred_21 : decode cX0_changeBarred 21 = .ok (.putfield 34, 3) := by decide +kernel
theorem dX0_changeBarred_24 : decode cX0_changeBarred 24 = .ok (.iconst 1, 1) := by decide +kernel
theorem dX0_changeBarred_25 : decode cX0_changeBarred 25 = .ok (.ireturn, 1) := by decide +kernel
set_option maxRecDepth 20000 in
theorem ggX0_factorBy_X0_worthAt : GoodIn wsX0_factorBy wsX0_worthAt := goodIn_r _ [6, 7, 8, 9, 10, 11, 12, 13, 5, 14, 15, 16, 17, 18, 19, 20, 21, 22, 23, 24, 25, 26, 27] (by decide +kernel) (by decide +kernel)
set_option maxRecDepth 20000 in
theorem gX0_factorBy_X0_worthAt : GoodIn wsX0_factorBy (wsV RX0 64 RX0 yX0_worthAt wsX0_worthAt) := goodIn_app (goodIn_of _ (by decide +kernel)) ggX0_factorBy_X0_worthAt
theorem dX0_factorBy_0 : decode cX0_factorBy 0 = .ok (.aload_n 0, 1) := by decide +kernel
theorem dX0_factorBy_1 : decode cX0_factorBy 1 = .ok (.aload_n 0, 1) := by decide +kernel
theorem dX0_factorBy_2 : decode cX0_factorBy 2 = .ok (.iload_n 1, 1) := by decide +kernel
theorem dX0_factorBy_3 : decode cX0_factorBy 3 = .ok (.invokevirtual 64, 3) := by decide +kernel
theorem dX0_factorBy_6 : decode cX0_factorBy 6 = .ok (.sipush 10000, 3) := by decide +kernel
theorem dX0_factorBy_9 : decode cX0_factorBy 9 = .ok (.idiv, 1) := by decide +kernel
theorem dX0_factorBy_10 : decode cX0_factorBy 10 = .ok (.putfield 67, 3) := by decide +kernel
theorem dX0_factorBy_13 : decode cX0_factorBy 13 = .ok (.return_, 1) := by decide +kernel
set_option maxRecDepth 20000 in
theorem ggX0_priceAt_X0_worthAt : GoodIn wsX0_priceAt wsX0_worthAt := goodIn_r _ [10, 11, 12, 13, 14, 15, 16, 17, 9, 18, 19, 20, 21, 22, 23, 24, 25, 26, 27, 28, 29, 30, 31] (by decide +kernel) (by decide +kernel)
set_option maxRecDepth 20000 in
theorem gX0_priceAt_X0_worthAt : GoodIn wsX0_priceAt (wsV RX0 64 RX0 yX0_worthAt wsX0_worthAt) := goodIn_app (goodIn_of _ (by decide +kernel)) ggX0_priceAt_X0_worthAt
theorem dX0_priceAt_0 : decode cX0_priceAt 0 = .ok (.aload_n 0, 1) := by decide +kernel
theorem dX0_priceAt_1 : decode cX0_priceAt 1 = .ok (.iconst 0, 1) := by decide +kernel
theorem dX0_priceAt_2 : decode cX0_priceAt 2 = .ok (.iload_n 1, 1) := by decide +kernel
theorem dX0_priceAt_3 : decode cX0_priceAt 3 = .ok (.aload_n 0, 1) := by decide +kernel
theorem dX0_priceAt_4 : decode cX0_priceAt 4 = .ok (.getfield 28, 3) := by decide +kernel
theorem dX0_priceAt_7 : decode cX0_priceAt 7 = .ok (.iadd, 1) := by decide +kernel
theorem dX0_priceAt_8 : decode cX0_priceAt 8 = .ok (.invokestatic 70, 3) := by decide +kernel
theorem dX0_priceAt_11 : decode cX0_priceAt 11 = .ok (.invokevirtual 64, 3) := by decide +kernel
theorem dX0_priceAt_14 : decode cX0_priceAt 14 = .ok (.ireturn, 1) := by decide +kernel
theorem dX0_invoiceBy_0 : decode cX0_invoiceBy 0 = .ok (.lload_n 1, 1) := by decide +kernel
theorem dX0_invoiceBy_1 : decode cX0_invoiceBy 1 = .ok (.aload_n 0, 1) := by decide +kernel
theorem dX0_invoiceBy_2 : decode cX0_invoiceBy 2 = .ok (.getfield 67, 3) := by decide +kernel
theorem dX0_invoiceBy_5 : decode cX0_invoiceBy 5 = .ok (.i2l, 1) := by decide +kernel
theorem dX0_invoiceBy_6 : decode cX0_invoiceBy 6 = .ok (.lmul, 1) := by decide +kernel
theorem dX0_invoiceBy_7 : decode cX0_invoiceBy 7 = .ok (.ldc2_w 58, 3) := by decide +kernel
theorem dX0_invoiceBy_10 : decode cX0_invoiceBy 10 = .ok (.ldiv, 1) := by decide +kernel
theorem dX0_invoiceBy_11 : decode cX0_invoiceBy 11 = .ok (.lreturn, 1) := by decide +kernel
theorem dX0_keepWorths_0 : decode cX0_keepWorths 0 = .ok (.aload_n 0, 1) := by decide +kernel
theorem dX0_keepWorths_1 : decode cX0_keepWorths 1 = .ok (.getfield 40, 3) := by decide +kernel
theorem dX0_keepWorths_4 : decode cX0_keepWorths 4 = .ok (.ifnonnull 12, 3) := by decide +kernel
theorem dX0_keepWorths_7 : decode cX0_keepWorths 7 = .ok (.aload_n 0, 1) := by decide +kernel
theorem dX0_keepWorths_8 : decode cX0_keepWorths 8 = .ok (.sipush 3201, 3) := by decide +kernel
theorem dX0_keepWorths_11 : decode cX0_keepWorths 11 = .ok (.newarray .int, 2) := by decide +kernel
theorem dX0_keepWorths_13 : decode cX0_keepWorths 13 = .ok (.putfield 40, 3) := by decide +kernel
theorem dX0_keepWorths_16 : decode cX0_keepWorths 16 = .ok (.return_, 1) := by decide +kernel
set_option maxRecDepth 20000 in
theorem ggX0_worthAt_X2_within : GoodIn wsX0_worthAt wsX2_within := goodIn_r _ [4] (by decide +kernel) (by decide +kernel)
set_option maxRecDepth 20000 in
theorem gX0_worthAt_X2_within_n60 : GoodIn wsX0_worthAt (wsX2_within) := ggX0_worthAt_X2_within
set_option maxRecDepth 20000 in
theorem ggX0_worthAt_X0_discounted : GoodIn wsX0_worthAt wsX0_discounted := goodIn_r _ [9, 10, 11, 12, 13, 14, 15, 16, 17, 18, 19, 20, 21, 22] (by decide +kernel) (by decide +kernel)
set_option maxRecDepth 20000 in
theorem gX0_worthAt_X0_discounted : GoodIn wsX0_worthAt (wsV RX0 75 RX0 yX0_discounted wsX0_discounted) := goodIn_app (goodIn_of _ (by decide +kernel)) ggX0_worthAt_X0_discounted
theorem dX0_worthAt_0 : decode cX0_worthAt 0 = .ok (.aload_n 0, 1) := by decide +kernel
theorem dX0_worthAt_1 : decode cX0_worthAt 1 = .ok (.getfield 40, 3) := by decide +kernel
theorem dX0_worthAt_4 : decode cX0_worthAt 4 = .ok (.ifnull 14, 3) := by decide +kernel
theorem dX0_worthAt_7 : decode cX0_worthAt 7 = .ok (.iload_n 1, 1) := by decide +kernel
theorem dX0_worthAt_8 : decode cX0_worthAt 8 = .ok (.iconst 0, 1) := by decide +kernel
theorem dX0_worthAt_9 : decode cX0_worthAt 9 = .ok (.sipush 3200, 3) := by decide +kernel
theorem dX0_worthAt_12 : decode cX0_worthAt 12 = .ok (.invokestatic 60, 3) := by decide +kernel
theorem dX0_worthAt_15 : decode cX0_worthAt 15 = .ok (.ifCond .ne 9, 3) := by decide +kernel
theorem dX0_worthAt_18 : decode cX0_worthAt 18 = .ok (.aload_n 0, 1) := by decide +kernel
theorem dX0_worthAt_19 : decode cX0_worthAt 19 = .ok (.iload_n 1, 1) := by decide +kernel
theorem dX0_worthAt_20 : decode cX0_worthAt 20 = .ok (.invokevirtual 75, 3) := by decide +kernel
theorem dX0_worthAt_23 : decode cX0_worthAt 23 = .ok (.ireturn, 1) := by decide +kernel
theorem dX0_worthAt_24 : decode cX0_worthAt 24 = .ok (.aload_n 0, 1) := by decide +kernel
theorem dX0_worthAt_25 : decode cX0_worthAt 25 = .ok (.getfield 40, 3) := by decide +kernel
theorem dX0_worthAt_28 : decode cX0_worthAt 28 = .ok (.iload_n 1, 1) := by decide +kernel
theorem dX0_worthAt_29 : decode cX0_worthAt 29 = .ok (.iaload, 1) := by decide +kernel
theorem dX0_worthAt_30 : decode cX0_worthAt 30 = .ok (.ifCond .ne 14, 3) := by decide +kernel
theorem dX0_worthAt_33 : decode cX0_worthAt 33 = .ok (.aload_n 0, 1) := by decide +kernel
theorem dX0_worthAt_34 : decode cX0_worthAt 34 = .ok (.getfield 40, 3) := by decide +kernel
theorem dX0_worthAt_37 : decode cX0_worthAt 37 = .ok (.iload_n 1, 1) := by decide +kernel
theorem dX0_worthAt_38 : decode cX0_worthAt 38 = .ok (.aload_n 0, 1) := by decide +kernel
theorem dX0_worthAt_39 : decode cX0_worthAt 39 = .ok (.iload_n 1, 1) := by decide +kernel
theorem dX0_worthAt_40 : decode cX0_worthAt 40 = .ok (.invokevirtual 75, 3) := by decide +kernel
theorem dX0_worthAt_43 : decode cX0_worthAt 43 = .ok (.iastore, 1) := by decide +kernel
theorem dX0_worthAt_44 : decode cX0_worthAt 44 = .ok (.aload_n 0, 1) := by decide +kernel
theorem dX0_worthAt_45 : decode cX0_worthAt 45 = .ok (.getfield 40, 3) := by decide +kernel
theorem dX0_worthAt_48 : decode cX0_worthAt 48 = .ok (.iload_n 1, 1) := by decide +kernel
theorem dX0_worthAt_49 : decode cX0_worthAt 49 = .ok (.iaload, 1) := by decide +kernel
theorem dX0_worthAt_50 : decode cX0_worthAt 50 = .ok (.ireturn, 1) := by decide +kernel
theorem dX0_discounted_0 : decode cX0_discounted 0 = .ok (.sipush 10000, 3) := by decide +kernel
theorem dX0_discounted_3 : decode cX0_discounted 3 = .ok (.iload_n 1, 1) := by decide +kernel
theorem dX0_discounted_4 : decode cX0_discounted 4 = .ok (.iadd, 1) := by decide +kernel
theorem dX0_discounted_5 : decode cX0_discounted 5 = .ok (.istore_n 2, 1) := by decide +kernel
theorem dX0_discounted_6 : decode cX0_discounted 6 = .ok (.iload_n 2, 1) := by decide +kernel
theorem dX0_discounted_7 : decode cX0_discounted 7 = .ok (.ifCond .gt 5, 3) := by decide +kernel
theorem dX0_discounted_10 : decode cX0_discounted 10 = .ok (.iconst 0, 1) := by decide +kernel
theorem dX0_discounted_11 : decode cX0_discounted 11 = .ok (.ireturn, 1) := by decide +kernel
theorem dX0_discounted_12 : decode cX0_discounted 12 = .ok (.lconst 0, 1) := by decide +kernel
theorem dX0_discounted_13 : decode cX0_discounted 13 = .ok (.lstore_n 3, 1) := by decide +kernel
theorem dX0_discounted_14 : decode cX0_discounted 14 = .ok (.aload_n 0, 1) := by decide +kernel
theorem dX0_discounted_15 : decode cX0_discounted 15 = .ok (.getfield 22, 3) := by decide +kernel
theorem dX0_discounted_18 : decode cX0_discounted 18 = .ok (.istore 5, 2) := by decide +kernel
theorem dX0_discounted_20 : decode cX0_discounted 20 = .ok (.iload 5, 2) := by decide +kernel
theorem dX0_discounted_22 : decode cX0_discounted 22 = .ok (.iconst 1, 1) := by decide +kernel
theorem dX0_discounted_23 : decode cX0_discounted 23 = .ok (.if_icmp .lt 27, 3) := by decide +kernel
theorem dX0_discounted_26 : decode cX0_discounted 26 = .ok (.lload_n 3, 1) := by decide +kernel
theorem dX0_discounted_27 : decode cX0_discounted 27 = .ok (.aload_n 0, 1) := by decide +kernel
theorem dX0_discounted_28 : decode cX0_discounted 28 = .ok (.getfield 9, 3) := by decide +kernel
theorem dX0_discounted_31 : decode cX0_discounted 31 = .ok (.iload 5, 2) := by decide +kernel
theorem dX0_discounted_33 : decode cX0_discounted 33 = .ok (.iaload, 1) := by decide +kernel
theorem dX0_discounted_34 : decode cX0_discounted 34 = .ok (.i2l, 1) := by decide +kernel
theorem dX0_discounted_35 : decode cX0_discounted 35 = .ok (.ladd, 1) := by decide +kernel
theorem dX0_discounted_36 : decode cX0_discounted 36 = .ok (.ldc2_w 58, 3) := by decide +kernel
theorem dX0_discounted_39 : decode cX0_discounted 39 = .ok (.lmul, 1) := by decide +kernel
theorem dX0_discounted_40 : decode cX0_discounted 40 = .ok (.iload_n 2, 1) := by decide +kernel
theorem dX0_discounted_41 : decode cX0_discounted 41 = .ok (.i2l, 1) := by decide +kernel
theorem dX0_discounted_42 : decode cX0_discounted 42 = .ok (.ldiv, 1) := by decide +kernel
theorem dX0_discounted_43 : decode cX0_discounted 43 = .ok (.lstore_n 3, 1) := by decide +kernel
theorem dX0_discounted_44 : decode cX0_discounted 44 = .ok (.iinc 5 (-1), 3) := by decide +kernel
theorem dX0_discounted_47 : decode cX0_discounted 47 = .ok (.goto (-27), 3) := by decide +kernel
theorem dX0_discounted_50 : decode cX0_discounted 50 = .ok (.lload_n 3, 1) := by decide +kernel
theorem dX0_discounted_51 : decode cX0_discounted 51 = .ok (.l2i, 1) := by decide +kernel
theorem dX0_discounted_52 : decode cX0_discounted 52 = .ok (.ireturn, 1) := by decide +kernel
theorem dX1_init_0 : decode cX1_init 0 = .ok (.aload_n 0, 1) := by decide +kernel
theorem dX1_init_1 : decode cX1_init 1 = .ok (.invokespecial 3, 3) := by decide +kernel
theorem dX1_init_4 : decode cX1_init 4 = .ok (.aload_n 0, 1) := by decide +kernel
theorem dX1_init_5 : decode cX1_init 5 = .ok (.sipush 600, 3) := by decide +kernel
theorem dX1_init_8 : decode cX1_init 8 = .ok (.putfield 9, 3) := by decide +kernel
theorem dX1_init_11 : decode cX1_init 11 = .ok (.aload_n 0, 1) := by decide +kernel
theorem dX1_init_12 : decode cX1_init 12 = .ok (.bipush 10, 2) := by decide +kernel
theorem dX1_init_14 : decode cX1_init 14 = .ok (.putfield 15, 3) := by decide +kernel
theorem dX1_init_17 : decode cX1_init 17 = .ok (.aload_n 0, 1) := by decide +kernel
theorem dX1_init_18 : decode cX1_init 18 = .ok (.ldc 18, 2) := by decide +kernel
theorem dX1_init_20 : decode cX1_init 20 = .ok (.putfield 19, 3) := by decide +kernel
theorem dX1_init_23 : decode cX1_init 23 = .ok (.aload_n 0, 1) := by decide +kernel
theorem dX1_init_24 : decode cX1_init 24 = .ok (.bipush 21, 2) := by decide +kernel
theorem dX1_init_26 : decode cX1_init 26 = .ok (.bipush 21, 2) := by decide +kernel
theorem dX1_init_28 : decode cX1_init 28 = .ok (.multianewarray 22 2, 4) := by decide +kernel
theorem dX1_init_32 : decode cX1_init 32 = .ok (.putfield 24, 3) := by decide +kernel
theorem dX1_init_35 : decode cX1_init 35 = .ok (.aload_n 0, 1) := by decide +kernel
theorem dX1_init_36 : decode cX1_init 36 = .ok (.bipush 21, 2) := by decide +kernel
theorem dX1_init_38 : decode cX1_init 38 = .ok (.bipush 21, 2) := by decide +kernel
theorem dX1_init_40 : decode cX1_init 40 = .ok (.multianewarray 27 2, 4) := by decide +kernel
theorem dX1_init_44 : decode cX1_init 44 = .ok (.putfield 29, 3) := by decide +kernel
theorem dX1_init_47 : decode cX1_init 47 = .ok (.aload_n 0, 1) := by decide +kernel
theorem dX1_init_48 : decode cX1_init 48 = .ok (.bipush 41, 2) := by decide +kernel
theorem dX1_init_50 : decode cX1_init 50 = .ok (.bipush 8, 2) := by decide +kernel
theorem dX1_init_52 : decode cX1_init 52 = .ok (.multianewarray 27 2, 4) := by decide +kernel
theorem dX1_init_56 : decode cX1_init 56 = .ok (.putfield 32, 3) := by decide +kernel
theorem dX1_init_59 : decode cX1_init 59 = .ok (.aload_n 0, 1) := by decide +kernel
theorem dX1_init_60 : decode cX1_init 60 = .ok (.bipush 41, 2) := by decide +kernel
theorem dX1_init_62 : decode cX1_init 62 = .ok (.newarray .long, 2) := by decide +kernel
theorem dX1_init_64 : decode cX1_init 64 = .ok (.putfield 35, 3) := by decide +kernel
theorem dX1_init_67 : decode cX1_init 67 = .ok (.aload_n 0, 1) := by decide +kernel
theorem dX1_init_68 : decode cX1_init 68 = .ok (.bipush 41, 2) := by decide +kernel
theorem dX1_init_70 : decode cX1_init 70 = .ok (.newarray .int, 2) := by decide +kernel
theorem dX1_init_72 : decode cX1_init 72 = .ok (.putfield 39, 3) := by decide +kernel
theorem dX1_init_75 : decode cX1_init 75 = .ok (.aload_n 0, 1) := by decide +kernel
theorem dX1_init_76 : decode cX1_init 76 = .ok (.bipush 8, 2) := by decide +kernel
theorem dX1_init_78 : decode cX1_init 78 = .ok (.newarray .long, 2) := by decide +kernel
theorem dX1_init_80 : decode cX1_init 80 = .ok (.putfield 43, 3) := by decide +kernel
theorem dX1_init_83 : decode cX1_init 83 = .ok (.aload_n 0, 1) := by decide +kernel
theorem dX1_init_84 : decode cX1_init 84 = .ok (.bipush 22, 2) := by decide +kernel
theorem dX1_init_86 : decode cX1_init 86 = .ok (.newarray .int, 2) := by decide +kernel
theorem dX1_init_88 : decode cX1_init 88 = .ok (.putfield 46, 3) := by decide +kernel
theorem dX1_init_91 : decode cX1_init 91 = .ok (.return_, 1) := by decide +kernel
theorem dX1_change_0 : decode cX1_change 0 = .ok (.iload_n 1, 1) := by decide +kernel
theorem dX1_change_1 : decode cX1_change 1 = .ok (.aload_n 0, 1) := by decide +kernel
theorem dX1_change_2 : decode cX1_change 2 = .ok (.getfield 49, 3) := by decide +kernel
theorem dX1_change_5 : decode cX1_change 5 = .ok (.if_icmp .ne 39, 3) := by decide +kernel
theorem dX1_change_8 : decode cX1_change 8 = .ok (.iload_n 2, 1) := by decide +kernel
theorem dX1_change_9 : decode cX1_change 9 = .ok (.aload_n 0, 1) := by decide +kernel
theorem dX1_change_10 : decode cX1_change 10 = .ok (.getfield 9, 3) := by decide +kernel
theorem dX1_change_13 : decode cX1_change 13 = .ok (.if_icmp .ne 31, 3) := by decide +kernel
theorem dX1_change_16 : decode cX1_change 16 = .ok (.iload_n 3, 1) := by decide +kernel
theorem dX1_change_17 : decode cX1_change 17 = .ok (.aload_n 0, 1) := by decide +kernel
theorem dX1_change_18 : decode cX1_change 18 = .ok (.getfield 15, 3) := by decide +kernel
theorem dX1_change_21 : decode cX1_change 21 = .ok (.if_icmp .ne 23, 3) := by decide +kernel
theorem dX1_change_24 : decode cX1_change 24 = .ok (.iload 4, 2) := by decide +kernel
theorem dX1_change_26 : decode cX1_change 26 = .ok (.aload_n 0, 1) := by decide +kernel
theorem dX1_change_27 : decode cX1_change 27 = .ok (.getfield 52, 3) := by decide +kernel
theorem dX1_change_30 : decode cX1_change 30 = .ok (.if_icmp .ne 14, 3) := by decide +kernel
theorem dX1_change_33 : decode cX1_change 33 = .ok (.iload 5, 2) := by decide +kernel
theorem dX1_change_35 : decode cX1_change 35 = .ok (.aload_n 0, 1) := by decide +kernel
theorem dX1_change_36 : decode cX1_change 36 = .ok (.getfield 19, 3) := by decide +kernel
theorem dX1_change_39 : decode cX1_change 39 = .ok (.if_icmp .ne 5, 3) := by decide +kernel
theorem dX1_change_42 : decode cX1_change 42 = .ok (.iconst 0, 1) := by decide +kernel
theorem dX1_change_43 : decode cX1_change 43 = .ok (.ireturn, 1) := by decide +kernel
theorem dX1_change_44 : decode cX1_change 44 = .ok (.aload_n 0, 1) := by decide +kernel
theorem dX1_change_45 : decode cX1_change 45 = .ok (.iload_n 1, 1) := by decide +kernel
theorem dX1_change_46 : decode cX1_change 46 = .ok (.putfield 49, 3) := by decide +kernel
theorem dX1_change_49 : decode cX1_change 49 = .ok (.aload_n 0, 1) := by decide +kernel
theorem dX1_change_50 : decode cX1_change 50 = .ok (.iload_n 2, 1) := by decide +kernel
theorem dX1_change_51 : decode cX1_change 51 = .ok (.putfield 9, 3) := by decide +kernel
theorem dX1_change_54 : decode cX1_change 54 = .ok (.aload_n 0, 1) := by decide +kernel
theorem dX1_change_55 : decode cX1_change 55 = .ok (.iload_n 3, 1) := by decide +kernel
theorem dX1_change_56 : decode cX1_change 56 = .ok (.putfield 15, 3) := by decide +kernel
theorem dX1_change_59 : decode cX1_change 59 = .ok (.aload_n 0, 1) := by decide +kernel
theorem dX1_change_60 : decode cX1_change 60 = .ok (.iload 4, 2) := by decide +kernel
theorem dX1_change_62 : decode cX1_change 62 = .ok (.putfield 52, 3) := by decide +kernel
theorem dX1_change_65 : decode cX1_change 65 = .ok (.aload_n 0, 1) := by decide +kernel
theorem dX1_change_66 : decode cX1_change 66 = .ok (.iload 5, 2) := by decide +kernel
theorem dX1_change_68 : decode cX1_change 68 = .ok (.putfield 19, 3) := by decide +kernel
theorem dX1_change_71 : decode cX1_change 71 = .ok (.iconst 1, 1) := by decide +kernel
theorem dX1_change_72 : decode cX1_change 72 = .ok (.ireturn, 1) := by decide +kernel
set_option maxRecDepth 20000 in
theorem ggX1_hasDay_X2_within : GoodIn wsX1_hasDay wsX2_within := goodIn_r _ [4] (by decide +kernel) (by decide +kernel)
set_option maxRecDepth 20000 in
theorem gX1_hasDay_X2_within_n55 : GoodIn wsX1_hasDay (wsX2_within) := ggX1_hasDay_X2_within
theorem dX1_hasDay_0 : decode cX1_hasDay 0 = .ok (.iload_n 1, 1) := by decide +kernel
theorem dX1_hasDay_1 : decode cX1_hasDay 1 = .ok (.iconst 0, 1) := by decide +kernel
theorem dX1_hasDay_2 : decode cX1_hasDay 2 = .ok (.aload_n 0, 1) := by decide +kernel
theorem dX1_hasDay_3 : decode cX1_hasDay 3 = .ok (.getfield 49, 3) := by decide +kernel
theorem dX1_hasDay_6 : decode cX1_hasDay 6 = .ok (.invokestatic 55, 3) := by decide +kernel
theorem dX1_hasDay_9 : decode cX1_hasDay 9 = .ok (.ireturn, 1) := by decide +kernel
set_option maxRecDepth 20000 in
theorem ggX1_hasNode_X1_hasDay : GoodIn wsX1_hasNode wsX1_hasDay := goodIn_r _ [5, 6, 7, 8, 9, 10, 11, 12, 13, 14, 15, 16, 17, 18, 19, 20, 21] (by decide +kernel) (by decide +kernel)
set_option maxRecDepth 20000 in
theorem gX1_hasNode_X1_hasDay : GoodIn wsX1_hasNode (wsV RX1 59 RX1 yX1_hasDay wsX1_hasDay) := goodIn_app (goodIn_of _ (by decide +kernel)) ggX1_hasNode_X1_hasDay
set_option maxRecDepth 20000 in
theorem ggX1_hasNode_X2_within : GoodIn wsX1_hasNode wsX2_within := goodIn_r _ [9] (by decide +kernel) (by decide +kernel)
set_option maxRecDepth 20000 in
theorem gX1_hasNode_X2_within_n55 : GoodIn wsX1_hasNode (wsX2_within) := ggX1_hasNode_X2_within
theorem dX1_hasNode_0 : decode cX1_hasNode 0 = .ok (.aload_n 0, 1) := by decide +kernel
theorem dX1_hasNode_1 : decode cX1_hasNode 1 = .ok (.iload_n 1, 1) := by decide +kernel
theorem dX1_hasNode_2 : decode cX1_hasNode 2 = .ok (.invokevirtual 59, 3) := by decide +kernel
theorem dX1_hasNode_5 : decode cX1_hasNode 5 = .ok (.ifCond .eq 16, 3) := by decide +kernel
theorem dX1_hasNode_8 : decode cX1_hasNode 8 = .ok (.iload_n 2, 1) := by decide +kernel
theorem dX1_hasNode_9 : decode cX1_hasNode 9 = .ok (.iconst 0, 1) := by decide +kernel
theorem dX1_hasNode_10 : decode cX1_hasNode 10 = .ok (.iload_n 1, 1) := by decide +kernel
theorem dX1_hasNode_11 : decode cX1_hasNode 11 = .ok (.invokestatic 55, 3) := by decide +kernel
theorem dX1_hasNode_14 : decode cX1_hasNode 14 = .ok (.ifCond .eq 7, 3) := by decide +kernel
theorem dX1_hasNode_17 : decode cX1_hasNode 17 = .ok (.iconst 1, 1) := by decide +kernel
theorem dX1_hasNode_18 : decode cX1_hasNode 18 = .ok (.goto 4, 3) := by decide +kernel
theorem dX1_hasNode_21 : decode cX1_hasNode 21 = .ok (.iconst 0, 1) := by decide +kernel
theorem dX1_hasNode_22 : decode cX1_hasNode 22 = .ok (.ireturn, 1) := by decide +kernel
theorem dX1_level_0 : decode cX1_level 0 = .ok (.aload_n 0, 1) := by decide +kernel
theorem dX1_level_1 : decode cX1_level 1 = .ok (.getfield 49, 3) := by decide +kernel
theorem dX1_level_4 : decode cX1_level 4 = .ok (.iconst 2, 1) := by decide +kernel
theorem dX1_level_5 : decode cX1_level 5 = .ok (.iload_n 2, 1) := by decide +kernel
theorem dX1_level_6 : decode cX1_level 6 = .ok (.imul, 1) := by decide +kernel
theorem dX1_level_7 : decode cX1_level 7 = .ok (.iadd, 1) := by decide +kernel
theorem dX1_level_8 : decode cX1_level 8 = .ok (.iload_n 1, 1) := by decide +kernel
theorem dX1_level_9 : decode cX1_level 9 = .ok (.isub, 1) := by decide +kernel
theorem dX1_level_10 : decode cX1_level 10 = .ok (.ireturn, 1) := by decide +kernel
theorem dX1_rateAt_0 : decode cX1_rateAt 0 = .ok (.iconst 0, 1) := by decide +kernel
theorem dX1_rateAt_1 : decode cX1_rateAt 1 = .ok (.sipush 3000, 3) := by decide +kernel
theorem dX1_rateAt_4 : decode cX1_rateAt 4 = .ok (.aload_n 0, 1) := by decide +kernel
theorem dX1_rateAt_5 : decode cX1_rateAt 5 = .ok (.getfield 9, 3) := by decide +kernel
theorem dX1_rateAt_8 : decode cX1_rateAt 8 = .ok (.aload_n 0, 1) := by decide +kernel
theorem dX1_rateAt_9 : decode cX1_rateAt 9 = .ok (.getfield 15, 3) := by decide +kernel
theorem dX1_rateAt_12 : decode cX1_rateAt 12 = .ok (.iload_n 1, 1) := by decide +kernel
theorem dX1_rateAt_13 : decode cX1_rateAt 13 = .ok (.aload_n 0, 1) := by decide +kernel
theorem dX1_rateAt_14 : decode cX1_rateAt 14 = .ok (.getfield 49, 3) := by decide +kernel
theorem dX1_rateAt_17 : decode cX1_rateAt 17 = .ok (.isub, 1) := by decide +kernel
theorem dX1_rateAt_18 : decode cX1_rateAt 18 = .ok (.imul, 1) := by decide +kernel
theorem dX1_rateAt_19 : decode cX1_rateAt 19 = .ok (.iadd, 1) := by decide +kernel
theorem dX1_rateAt_20 : decode cX1_rateAt 20 = .ok (.invokestatic 63, 3) := by decide +kernel
theorem dX1_rateAt_23 : decode cX1_rateAt 23 = .ok (.invokestatic 69, 3) := by decide +kernel
theorem dX1_rateAt_26 : decode cX1_rateAt 26 = .ok (.ireturn, 1) := by decide +kernel
set_option maxRecDepth 20000 in
theorem ggX1_layPrices_X1_rateAt : GoodIn wsX1_layPrices wsX1_rateAt := goodIn_r _ [7, 8, 9, 1, 10, 11, 12, 13, 14, 15, 16, 39, 40, 41, 42, 43, 44, 45, 46, 47, 48, 49, 50] (by decide +kernel) (by decide +kernel)
set_option maxRecDepth 20000 in
theorem gX1_layPrices_X1_rateAt : GoodIn wsX1_layPrices (wsV RX1 72 RX1 yX1_rateAt wsX1_rateAt) := goodIn_app (goodIn_of _ (by decide +kernel)) ggX1_layPrices_X1_rateAt
set_option maxRecDepth 20000 in
theorem ggX1_layPrices_X0_priceAt : GoodIn wsX1_layPrices wsX0_priceAt := goodIn_r _ [21, 22, 23, 15, 12, 16, 24, 25, 26, 20, 27, 28, 29, 30, 31, 32, 33, 34, 35, 36, 37, 38, 51, 52, 53, 54, 55, 56, 57, 58, 59, 60] (by decide +kernel) (by decide +kernel)
set_option maxRecDepth 20000 in
theorem gX1_layPrices_X0_priceAt : GoodIn wsX1_layPrices (wsV RX1 76 RX0 yX0_priceAt wsX0_priceAt) := goodIn_app (goodIn_of _ (by decide +kernel)) ggX1_layPrices_X0_priceAt
theorem dX1_layPrices_0 : decode cX1_layPrices 0 = .ok (.iconst 0, 1) := by decide +kernel
theorem dX1_layPrices_1 : decode cX1_layPrices 1 = .ok (.istore_n 3, 1) := by decide +kernel
theorem dX1_layPrices_2 : decode cX1_layPrices 2 = .ok (.iload_n 3, 1) := by decide +kernel
theorem dX1_layPrices_3 : decode cX1_layPrices 3 = .ok (.iconst 2, 1) := by decide +kernel
theorem dX1_layPrices_4 : decode cX1_layPrices 4 = .ok (.aload_n 0, 1) := by decide +kernel
theorem dX1_layPrices_5 : decode cX1_layPrices 5 = .ok (.getfield 49, 3) := by decide +kernel
theorem dX1_layPrices_8 : decode cX1_layPrices 8 = .ok (.imul, 1) := by decide +kernel
theorem dX1_layPrices_9 : decode cX1_layPrices 9 = .ok (.if_icmp .gt 49, 3) := by decide +kernel
theorem dX1_layPrices_12 : decode cX1_layPrices 12 = .ok (.aload_n 0, 1) := by decide +kernel
theorem dX1_layPrices_13 : decode cX1_layPrices 13 = .ok (.iload_n 3, 1) := by decide +kernel
theorem dX1_layPrices_14 : decode cX1_layPrices 14 = .ok (.invokevirtual 72, 3) := by decide +kernel
theorem dX1_layPrices_17 : decode cX1_layPrices 17 = .ok (.istore 4, 2) := by decide +kernel
theorem dX1_layPrices_19 : decode cX1_layPrices 19 = .ok (.iconst 0, 1) := by decide +kernel
theorem dX1_layPrices_20 : decode cX1_layPrices 20 = .ok (.istore 5, 2) := by decide +kernel
theorem dX1_layPrices_22 : decode cX1_layPrices 22 = .ok (.iload 5, 2) := by decide +kernel
theorem dX1_layPrices_24 : decode cX1_layPrices 24 = .ok (.iload_n 2, 1) := by decide +kernel
theorem dX1_layPrices_25 : decode cX1_layPrices 25 = .ok (.if_icmp .ge 27, 3) := by decide +kernel
theorem dX1_layPrices_28 : decode cX1_layPrices 28 = .ok (.aload_n 0, 1) := by decide +kernel
theorem dX1_layPrices_29 : decode cX1_layPrices 29 = .ok (.getfield 32, 3) := by decide +kernel
theorem dX1_layPrices_32 : decode cX1_layPrices 32 = .ok (.iload_n 3, 1) := by decide +kernel
theorem dX1_layPrices_33 : decode cX1_layPrices 33 = .ok (.aaload, 1) := by decide +kernel
theorem dX1_layPrices_34 : decode cX1_layPrices 34 = .ok (.iload 5, 2) := by decide +kernel
theorem dX1_layPrices_36 : decode cX1_layPrices 36 = .ok (.aload_n 1, 1) := by decide +kernel
theorem dX1_layPrices_37 : decode cX1_layPrices 37 = .ok (.iload 5, 2) := by decide +kernel
theorem dX1_layPrices_39 : decode cX1_layPrices 39 = .ok (.aaload, 1) := by decide +kernel
theorem dX1_layPrices_40 : decode cX1_layPrices 40 = .ok (.iload 4, 2) := by decide +kernel
theorem dX1_layPrices_42 : decode cX1_layPrices 42 = .ok (.invokevirtual 76, 3) := by decide +kernel
theorem dX1_layPrices_45 : decode cX1_layPrices 45 = .ok (.iastore, 1) := by decide +kernel
theorem dX1_layPrices_46 : decode cX1_layPrices 46 = .ok (.iinc 5 1, 3) := by decide +kernel
theorem dX1_layPrices_49 : decode cX1_layPrices 49 = .ok (.goto (-27), 3) := by decide +kernel
theorem dX1_layPrices_52 : decode cX1_layPrices 52 = .ok (.iinc 3 1, 3) := by decide +kernel
theorem dX1_layPrices_55 : decode cX1_layPrices 55 = .ok (.goto (-53), 3) := by decide +kernel
theorem dX1_layPrices_58 : decode cX1_layPrices 58 = .ok (.return_, 1) := by decide +kernel
set_option maxRecDepth 20000 in
theorem ggX1_layNow_X2_isIn : GoodIn wsX1_layNow wsX2_isIn := goodIn_r _ [8] (by decide +kernel) (by decide +kernel)
set_option maxRecDepth 20000 in
theorem gX1_layNow_X2_isIn_n81 : GoodIn wsX1_layNow (wsX2_isIn) := ggX1_layNow_X2_isIn
set_option maxRecDepth 20000 in
theorem ggX1_layNow_X0_invoiceBy : GoodIn wsX1_layNow wsX0_invoiceBy := goodIn_r _ [13, 14, 15, 33, 34, 35, 36, 37, 38, 39, 40, 41, 42] (by decide +kernel) (by decide +kernel)
set_option maxRecDepth 20000 in
theorem gX1_layNow_X0_invoiceBy : GoodIn wsX1_layNow (wsV RX1 85 RX0 yX0_invoiceBy wsX0_invoiceBy) := goodIn_app (goodIn_of _ (by decide +kernel)) ggX1_layNow_X0_invoiceBy
set_option maxRecDepth 20000 in
theorem ggX1_layNow_X1_bestOn : GoodIn wsX1_layNow wsX1_bestOn := goodIn_r _ [20, 1, 5, 6, 7, 8, 21, 22, 23, 24, 25, 26, 27, 28, 29, 30, 31, 32] (by decide +kernel) (by decide +kernel)
set_option maxRecDepth 20000 in
theorem gX1_layNow_X1_bestOn : GoodIn wsX1_layNow (wsV RX1 89 RX1 yX1_bestOn wsX1_bestOn) := goodIn_app (goodIn_of _ (by decide +kernel)) ggX1_layNow_X1_bestOn
theorem dX1_layNow_0 : decode cX1_layNow 0 = .ok (.iconst 0, 1) := by decide +kernel
theorem dX1_layNow_1 : decode cX1_layNow 1 = .ok (.istore 4, 2) := by decide +kernel
theorem dX1_layNow_3 : decode cX1_layNow 3 = .ok (.iload 4, 2) := by decide +kernel
theorem dX1_layNow_5 : decode cX1_layNow 5 = .ok (.bipush 8, 2) := by decide +kernel
theorem dX1_layNow_7 : decode cX1_layNow 7 = .ok (.if_icmp .ge 34, 3) := by decide +kernel
theorem dX1_layNow_10 : decode cX1_layNow 10 = .ok (.iload_n 2, 1) := by decide +kernel
theorem dX1_layNow_11 : decode cX1_layNow 11 = .ok (.iload 4, 2) := by decide +kernel
theorem dX1_layNow_13 : decode cX1_layNow 13 = .ok (.invokestatic 81, 3) := by decide +kernel
theorem dX1_layNow_16 : decode cX1_layNow 16 = .ok (.ifCond .eq 19, 3) := by decide +kernel
theorem dX1_layNow_19 : decode cX1_layNow 19 = .ok (.aload_n 0, 1) := by decide +kernel
theorem dX1_layNow_20 : decode cX1_layNow 20 = .ok (.getfield 43, 3) := by decide +kernel
theorem dX1_layNow_23 : decode cX1_layNow 23 = .ok (.iload 4, 2) := by decide +kernel
theorem dX1_layNow_25 : decode cX1_layNow 25 = .ok (.aload_n 1, 1) := by decide +kernel
theorem dX1_layNow_26 : decode cX1_layNow 26 = .ok (.iload 4, 2) := by decide +kernel
theorem dX1_layNow_28 : decode cX1_layNow 28 = .ok (.aaload, 1) := by decide +kernel
theorem dX1_layNow_29 : decode cX1_layNow 29 = .ok (.iload_n 3, 1) := by decide +kernel
theorem dX1_layNow_30 : decode cX1_layNow 30 = .ok (.i2l, 1) := by decide +kernel
theorem dX1_layNow_31 : decode cX1_layNow 31 = .ok (.invokevirtual 85, 3) := by decide +kernel
theorem dX1_layNow_34 : decode cX1_layNow 34 = .ok (.lastore, 1) := by decide +kernel
theorem dX1_layNow_35 : decode cX1_layNow 35 = .ok (.iinc 4 1, 3) := by decide +kernel
theorem dX1_layNow_38 : decode cX1_layNow 38 = .ok (.goto (-35), 3) := by decide +kernel
theorem dX1_layNow_41 : decode cX1_layNow 41 = .ok (.iconst 0, 1) := by decide +kernel
theorem dX1_layNow_42 : decode cX1_layNow 42 = .ok (.istore 4, 2) := by decide +kernel
theorem dX1_layNow_44 : decode cX1_layNow 44 = .ok (.iload 4, 2) := by decide +kernel
theorem dX1_layNow_46 : decode cX1_layNow 46 = .ok (.iconst 2, 1) := by decide +kernel
theorem dX1_layNow_47 : decode cX1_layNow 47 = .ok (.aload_n 0, 1) := by decide +kernel
theorem dX1_layNow_48 : decode cX1_layNow 48 = .ok (.getfield 49, 3) := by decide +kernel
theorem dX1_layNow_51 : decode cX1_layNow 51 = .ok (.imul, 1) := by decide +kernel
theorem dX1_layNow_52 : decode cX1_layNow 52 = .ok (.if_icmp .gt 63, 3) := by decide +kernel
theorem dX1_layNow_55 : decode cX1_layNow 55 = .ok (.aload_n 0, 1) := by decide +kernel
theorem dX1_layNow_56 : decode cX1_layNow 56 = .ok (.iload 4, 2) := by decide +kernel
theorem dX1_layNow_58 : decode cX1_layNow 58 = .ok (.iload_n 2, 1) := by decide +kernel
theorem dX1_layNow_59 : decode cX1_layNow 59 = .ok (.invokevirtual 89, 3) := by decide +kernel
theorem dX1_layNow_62 : decode cX1_layNow 62 = .ok (.istore 5, 2) := by decide +kernel
theorem dX1_layNow_64 : decode cX1_layNow 64 = .ok (.aload_n 0, 1) := by decide +kernel
theorem dX1_layNow_65 : decode cX1_layNow 65 = .ok (.getfield 39, 3) := by decide +kernel
theorem dX1_layNow_68 : decode cX1_layNow 68 = .ok (.iload 4, 2) := by decide +kernel
theorem dX1_layNow_70 : decode cX1_layNow 70 = .ok (.iload 5, 2) := by decide +kernel
theorem dX1_layNow_72 : decode cX1_layNow 72 = .ok (.iastore, 1) := by decide +kernel
theorem dX1_layNow_73 : decode cX1_layNow 73 = .ok (.aload_n 0, 1) := by decide +kernel
theorem dX1_layNow_74 : decode cX1_layNow 74 = .ok (.getfield 35, 3) := by decide +kernel
theorem dX1_layNow_77 : decode cX1_layNow 77 = .ok (.iload 4, 2) := by decide +kernel
theorem dX1_layNow_79 : decode cX1_layNow 79 = .ok (.iload 5, 2) := by decide +kernel
theorem dX1_layNow_81 : decode cX1_layNow 81 = .ok (.iconst (-1), 1) := by decide +kernel
theorem dX1_layNow_82 : decode cX1_layNow 82 = .ok (.if_icmp .ne 7, 3) := by decide +kernel
theorem dX1_layNow_85 : decode cX1_layNow 85 = .ok (.lconst 0, 1) := by decide +kernel
theorem dX1_layNow_86 : decode cX1_layNow 86 = .ok (.goto 22, 3) := by decide +kernel
theorem dX1_layNow_89 : decode cX1_layNow 89 = .ok (.aload_n 0, 1) := by decide +kernel
theorem dX1_layNow_90 : decode cX1_layNow 90 = .ok (.getfield 43, 3) := by decide +kernel
theorem dX1_layNow_93 : decode cX1_layNow 93 = .ok (.iload 5, 2) := by decide +kernel
theorem dX1_layNow_95 : decode cX1_layNow 95 = .ok (.laload, 1) := by decide +kernel
theorem dX1_layNow_96 : decode cX1_layNow 96 = .ok (.aload_n 0, 1) := by decide +kernel
theorem dX1_layNow_97 : decode cX1_layNow 97 = .ok (.getfield 32, 3) := by decide +kernel
theorem dX1_layNow_100 : decode cX1_layNow 100 = .ok (.iload 4, 2) := by decide +kernel
theorem dX1_layNow_102 : decode cX1_layNow 102 = .ok (.aaload, 1) := by decide +kernel
theorem dX1_layNow_103 : decode cX1_layNow 103 = .ok (.iload 5, 2) := by decide +kernel
theorem dX1_layNow_105 : decode cX1_layNow 105 = .ok (.iaload, 1) := by decide +kernel
theorem dX1_layNow_106 : decode cX1_layNow 106 = .ok (.i2l, 1) := by decide +kernel
theorem dX1_layNow_107 : decode cX1_layNow 107 = .ok (.lsub, 1) := by decide +kernel
theorem dX1_layNow_108 : decode cX1_layNow 108 = .ok (.lastore, 1) := by decide +kernel
theorem dX1_layNow_109 : decode cX1_layNow 109 = .ok (.iinc 4 1, 3) := by decide +kernel
theorem dX1_layNow_112 : decode cX1_layNow 112 = .ok (.goto (-68), 3) := by decide +kernel
theorem dX1_layNow_115 : decode cX1_layNow 115 = .ok (.return_, 1) := by decide +kernel
set_option maxRecDepth 20000 in
theorem ggX1_bestOn_X2_isIn : GoodIn wsX1_bestOn wsX2_isIn := goodIn_r _ [5] (by decide +kernel) (by decide +kernel)
set_option maxRecDepth 20000 in
theorem gX1_bestOn_X2_isIn_n81 : GoodIn wsX1_bestOn (wsX2_isIn) := ggX1_bestOn_X2_isIn
theorem dX1_bestOn_0 : decode cX1_bestOn 0 = .ok (.iconst (-1), 1) := by decide +kernel
theorem dX1_bestOn_1 : decode cX1_bestOn 1 = .ok (.istore_n 3, 1) := by decide +kernel
theorem dX1_bestOn_2 : decode cX1_bestOn 2 = .ok (.lconst 0, 1) := by decide +kernel
theorem dX1_bestOn_3 : decode cX1_bestOn 3 = .ok (.lstore 4, 2) := by decide +kernel
theorem dX1_bestOn_5 : decode cX1_bestOn 5 = .ok (.iconst 0, 1) := by decide +kernel
theorem dX1_bestOn_6 : decode cX1_bestOn 6 = .ok (.istore 6, 2) := by decide +kernel
theorem dX1_bestOn_8 : decode cX1_bestOn 8 = .ok (.iload 6, 2) := by decide +kernel
theorem dX1_bestOn_10 : decode cX1_bestOn 10 = .ok (.bipush 8, 2) := by decide +kernel
theorem dX1_bestOn_12 : decode cX1_bestOn 12 = .ok (.if_icmp .ge 58, 3) := by decide +kernel
theorem dX1_bestOn_15 : decode cX1_bestOn 15 = .ok (.iload_n 2, 1) := by decide +kernel
theorem dX1_bestOn_16 : decode cX1_bestOn 16 = .ok (.iload 6, 2) := by decide +kernel
theorem dX1_bestOn_18 : decode cX1_bestOn 18 = .ok (.invokestatic 81, 3) := by decide +kernel
theorem dX1_bestOn_21 : decode cX1_bestOn 21 = .ok (.ifCond .eq 43, 3) := by decide +kernel
theorem dX1_bestOn_24 : decode cX1_bestOn 24 = .ok (.aload_n 0, 1) := by decide +kernel
theorem dX1_bestOn_25 : decode cX1_bestOn 25 = .ok (.getfield 43, 3) := by decide +kernel
theorem dX1_bestOn_28 : decode cX1_bestOn 28 = .ok (.iload 6, 2) := by decide +kernel
theorem dX1_bestOn_30 : decode cX1_bestOn 30 = .ok (.laload, 1) := by decide +kernel
theorem dX1_bestOn_31 : decode cX1_bestOn 31 = .ok (.aload_n 0, 1) := by decide +kernel
theorem dX1_bestOn_32 : decode cX1_bestOn 32 = .ok (.getfield 32, 3) := by decide +kernel
theorem dX1_bestOn_35 : decode cX1_bestOn 35 = .ok (.iload_n 1, 1) := by decide +kernel
theorem dX1_bestOn_36 : decode cX1_bestOn 36 = .ok (.aaload, 1) := by decide +kernel
theorem dX1_bestOn_37 : decode cX1_bestOn 37 = .ok (.iload 6, 2) := by decide +kernel
theorem dX1_bestOn_39 : decode cX1_bestOn 39 = .ok (.iaload, 1) := by decide +kernel
theorem dX1_bestOn_40 : decode cX1_bestOn 40 = .ok (.i2l, 1) := by decide +kernel
theorem dX1_bestOn_41 : decode cX1_bestOn 41 = .ok (.lsub, 1) := by decide +kernel
theorem dX1_bestOn_42 : decode cX1_bestOn 42 = .ok (.lstore 7, 2) := by decide +kernel
theorem dX1_bestOn_44 : decode cX1_bestOn 44 = .ok (.iload_n 3, 1) := by decide +kernel
theorem dX1_bestOn_45 : decode cX1_bestOn 45 = .ok (.iconst (-1), 1) := by decide +kernel
theorem dX1_bestOn_46 : decode cX1_bestOn 46 = .ok (.if_icmp .eq 11, 3) := by decide +kernel
theorem dX1_bestOn_49 : decode cX1_bestOn 49 = .ok (.lload 7, 2) := by decide +kernel
theorem dX1_bestOn_51 : decode cX1_bestOn 51 = .ok (.lload 4, 2) := by decide +kernel
theorem dX1_bestOn_53 : decode cX1_bestOn 53 = .ok (.lcmp, 1) := by decide +kernel
theorem dX1_bestOn_54 : decode cX1_bestOn 54 = .ok (.ifCond .le 10, 3) := by decide +kernel
theorem dX1_bestOn_57 : decode cX1_bestOn 57 = .ok (.iload 6, 2) := by decide +kernel
theorem dX1_bestOn_59 : decode cX1_bestOn 59 = .ok (.istore_n 3, 1) := by decide +kernel
theorem dX1_bestOn_60 : decode cX1_bestOn 60 = .ok (.lload 7, 2) := by decide +kernel
theorem dX1_bestOn_62 : decode cX1_bestOn 62 = .ok (.lstore 4, 2) := by decide +kernel
theorem dX1_bestOn_64 : decode cX1_bestOn 64 = .ok (.iinc 6 1, 3) := by decide +kernel
theorem dX1_bestOn_67 : decode cX1_bestOn 67 = .ok (.goto (-59), 3) := by decide +kernel
theorem dX1_bestOn_70 : decode cX1_bestOn 70 = .ok (.iload_n 3, 1) := by decide +kernel
theorem dX1_bestOn_71 : decode cX1_bestOn 71 = .ok (.ireturn, 1) := by decide +kernel
set_option maxRecDepth 20000 in
theorem ggX1_rollBack_X1_deliverAt : GoodIn wsX1_rollBack wsX1_deliverAt := goodIn_r _ [10, 1, 4, 5, 11, 12, 13, 14, 9, 15, 16, 21, 22, 23, 24, 25, 26, 27, 28, 29, 30, 31, 32] (by decide +kernel) (by decide +kernel)
set_option maxRecDepth 20000 in
theorem gX1_rollBack_X1_deliverAt : GoodIn wsX1_rollBack (wsV RX1 92 RX1 yX1_deliverAt wsX1_deliverAt) := goodIn_app (goodIn_of _ (by decide +kernel)) ggX1_rollBack_X1_deliverAt
set_option maxRecDepth 20000 in
theorem ggX1_rollBack_J9_floorDiv_f86c9 : GoodIn wsX1_rollBack wsJ9_floorDiv_f86c9 := goodIn_r _ [20] (by decide +kernel) (by decide +kernel)
set_option maxRecDepth 20000 in
theorem gX1_rollBack_J9_floorDiv_f86c9 : GoodIn wsX1_rollBack (va_wsS RX1 98 yJ9_floorDiv_f86c9 wsJ9_floorDiv_f86c9) := goodIn_app (goodIn_of _ (by decide +kernel)) ggX1_rollBack_J9_floorDiv_f86c9
set_option maxRecDepth 20000 in
theorem ggX1_rollBack_X1_level : GoodIn wsX1_rollBack wsX1_level := goodIn_r _ [15, 16, 21, 22, 23, 24, 25, 26, 27, 28, 29, 30, 31, 32] (by decide +kernel) (by decide +kernel)
set_option maxRecDepth 20000 in
theorem gX1_rollBack_X1_level : GoodIn wsX1_rollBack (wsV RX1 102 RX1 yX1_level wsX1_level) := goodIn_app (goodIn_of _ (by decide +kernel)) ggX1_rollBack_X1_level
theorem dX1_rollBack_0 : decode cX1_rollBack 0 = .ok (.iconst 0, 1) := by decide +kernel
theorem dX1_rollBack_1 : decode cX1_rollBack 1 = .ok (.istore_n 3, 1) := by decide +kernel
theorem dX1_rollBack_2 : decode cX1_rollBack 2 = .ok (.iload_n 3, 1) := by decide +kernel
theorem dX1_rollBack_3 : decode cX1_rollBack 3 = .ok (.iload_n 1, 1) := by decide +kernel
theorem dX1_rollBack_4 : decode cX1_rollBack 4 = .ok (.if_icmp .gt 15, 3) := by decide +kernel
theorem dX1_rollBack_7 : decode cX1_rollBack 7 = .ok (.aload_n 0, 1) := by decide +kernel
theorem dX1_rollBack_8 : decode cX1_rollBack 8 = .ok (.iload_n 1, 1) := by decide +kernel
theorem dX1_rollBack_9 : decode cX1_rollBack 9 = .ok (.iload_n 3, 1) := by decide +kernel
theorem dX1_rollBack_10 : decode cX1_rollBack 10 = .ok (.invokevirtual 92, 3) := by decide +kernel
theorem dX1_rollBack_13 : decode cX1_rollBack 13 = .ok (.iinc 3 1, 3) := by decide +kernel
theorem dX1_rollBack_16 : decode cX1_rollBack 16 = .ok (.goto (-14), 3) := by decide +kernel
theorem dX1_rollBack_19 : decode cX1_rollBack 19 = .ok (.iload_n 1, 1) := by decide +kernel
theorem dX1_rollBack_20 : decode cX1_rollBack 20 = .ok (.iconst 1, 1) := by decide +kernel
theorem dX1_rollBack_21 : decode cX1_rollBack 21 = .ok (.isub, 1) := by decide +kernel
theorem dX1_rollBack_22 : decode cX1_rollBack 22 = .ok (.istore_n 3, 1) := by decide +kernel
theorem dX1_rollBack_23 : decode cX1_rollBack 23 = .ok (.iload_n 3, 1) := by decide +kernel
theorem dX1_rollBack_24 : decode cX1_rollBack 24 = .ok (.ifCond .lt 117, 3) := by decide +kernel
theorem dX1_rollBack_27 : decode cX1_rollBack 27 = .ok (.iconst 0, 1) := by decide +kernel
theorem dX1_rollBack_28 : decode cX1_rollBack 28 = .ok (.istore 4, 2) := by decide +kernel
theorem dX1_rollBack_30 : decode cX1_rollBack 30 = .ok (.iload 4, 2) := by decide +kernel
theorem dX1_rollBack_32 : decode cX1_rollBack 32 = .ok (.iload_n 3, 1) := by decide +kernel
theorem dX1_rollBack_33 : decode cX1_rollBack 33 = .ok (.if_icmp .gt 102, 3) := by decide +kernel
theorem dX1_rollBack_36 : decode cX1_rollBack 36 = .ok (.aload_n 0, 1) := by decide +kernel
theorem dX1_rollBack_37 : decode cX1_rollBack 37 = .ok (.getfield 24, 3) := by decide +kernel
theorem dX1_rollBack_40 : decode cX1_rollBack 40 = .ok (.iload_n 3, 1) := by decide +kernel
theorem dX1_rollBack_41 : decode cX1_rollBack 41 = .ok (.iconst 1, 1) := by decide +kernel
theorem dX1_rollBack_42 : decode cX1_rollBack 42 = .ok (.iadd, 1) := by decide +kernel
theorem dX1_rollBack_43 : decode cX1_rollBack 43 = .ok (.aaload, 1) := by decide +kernel
theorem dX1_rollBack_44 : decode cX1_rollBack 44 = .ok (.iload 4, 2) := by decide +kernel
theorem dX1_rollBack_46 : decode cX1_rollBack 46 = .ok (.laload, 1) := by decide +kernel
theorem dX1_rollBack_47 : decode cX1_rollBack 47 = .ok (.aload_n 0, 1) := by decide +kernel
theorem dX1_rollBack_48 : decode cX1_rollBack 48 = .ok (.getfield 24, 3) := by decide +kernel
theorem dX1_rollBack_51 : decode cX1_rollBack 51 = .ok (.iload_n 3, 1) := by decide +kernel
theorem dX1_rollBack_52 : decode cX1_rollBack 52 = .ok (.iconst 1, 1) := by decide +kernel
theorem dX1_rollBack_53 : decode cX1_rollBack 53 = .ok (.iadd, 1) := by decide +kernel
theorem dX1_rollBack_54 : decode cX1_rollBack 54 = .ok (.aaload, 1) := by decide +kernel
theorem dX1_rollBack_55 : decode cX1_rollBack 55 = .ok (.iload 4, 2) := by decide +kernel
theorem dX1_rollBack_57 : decode cX1_rollBack 57 = .ok (.iconst 1, 1) := by decide +kernel
theorem dX1_rollBack_58 : decode cX1_rollBack 58 = .ok (.iadd, 1) := by decide +kernel
theorem dX1_rollBack_59 : decode cX1_rollBack 59 = .ok (.laload, 1) := by decide +kernel
theorem dX1_rollBack_60 : decode cX1_rollBack 60 = .ok (.ladd, 1) := by decide +kernel
theorem dX1_rollBack_61 : decode cX1_rollBack 61 = .ok (.ldc2_w 96, 3) := by decide +kernel
theorem dX1_rollBack_64 : decode cX1_rollBack 64 = .ok (.invokestatic 98, 3) := by decide +kernel
theorem dX1_rollBack_67 : decode cX1_rollBack 67 = .ok (.aload_n 0, 1) := by decide +kernel
theorem dX1_rollBack_68 : decode cX1_rollBack 68 = .ok (.getfield 52, 3) := by decide +kernel
theorem dX1_rollBack_71 : decode cX1_rollBack 71 = .ok (.i2l, 1) := by decide +kernel
theorem dX1_rollBack_72 : decode cX1_rollBack 72 = .ok (.lsub, 1) := by decide +kernel
theorem dX1_rollBack_73 : decode cX1_rollBack 73 = .ok (.lstore 5, 2) := by decide +kernel
theorem dX1_rollBack_75 : decode cX1_rollBack 75 = .ok (.iload_n 2, 1) := by decide +kernel
theorem dX1_rollBack_76 : decode cX1_rollBack 76 = .ok (.ifCond .eq 31, 3) := by decide +kernel
theorem dX1_rollBack_79 : decode cX1_rollBack 79 = .ok (.aload_n 0, 1) := by decide +kernel
theorem dX1_rollBack_80 : decode cX1_rollBack 80 = .ok (.getfield 35, 3) := by decide +kernel
theorem dX1_rollBack_83 : decode cX1_rollBack 83 = .ok (.aload_n 0, 1) := by decide +kernel
theorem dX1_rollBack_84 : decode cX1_rollBack 84 = .ok (.iload_n 3, 1) := by decide +kernel
theorem dX1_rollBack_85 : decode cX1_rollBack 85 = .ok (.iload 4, 2) := by decide +kernel
theorem dX1_rollBack_87 : decode cX1_rollBack 87 = .ok (.invokevirtual 102, 3) := by decide +kernel
theorem dX1_rollBack_90 : decode cX1_rollBack 90 = .ok (.laload, 1) := by decide +kernel
theorem dX1_rollBack_91 : decode cX1_rollBack 91 = .ok (.lload 5, 2) := by decide +kernel
theorem dX1_rollBack_93 : decode cX1_rollBack 93 = .ok (.lcmp, 1) := by decide +kernel
theorem dX1_rollBack_94 : decode cX1_rollBack 94 = .ok (.ifCond .lt 13, 3) := by decide +kernel
theorem dX1_rollBack_97 : decode cX1_rollBack 97 = .ok (.aload_n 0, 1) := by decide +kernel
theorem dX1_rollBack_98 : decode cX1_rollBack 98 = .ok (.iload_n 3, 1) := by decide +kernel
theorem dX1_rollBack_99 : decode cX1_rollBack 99 = .ok (.iload 4, 2) := by decide +kernel
theorem dX1_rollBack_101 : decode cX1_rollBack 101 = .ok (.invokevirtual 92, 3) := by decide +kernel
theorem dX1_rollBack_104 : decode cX1_rollBack 104 = .ok (.goto 25, 3) := by decide +kernel
theorem dX1_rollBack_107 : decode cX1_rollBack 107 = .ok (.aload_n 0, 1) := by decide +kernel
theorem dX1_rollBack_108 : decode cX1_rollBack 108 = .ok (.getfield 24, 3) := by decide +kernel
theorem dX1_rollBack_111 : decode cX1_rollBack 111 = .ok (.iload_n 3, 1) := by decide +kernel
theorem dX1_rollBack_112 : decode cX1_rollBack 112 = .ok (.aaload, 1) := by decide +kernel
theorem dX1_rollBack_113 : decode cX1_rollBack 113 = .ok (.iload 4, 2) := by decide +kernel
theorem dX1_rollBack_115 : decode cX1_rollBack 115 = .ok (.lload 5, 2) := by decide +kernel
theorem dX1_rollBack_117 : decode cX1_rollBack 117 = .ok (.lastore, 1) := by decide +kernel
theorem dX1_rollBack_118 : decode cX1_rollBack 118 = .ok (.aload_n 0, 1) := by decide +kernel
theorem dX1_rollBack_119 : decode cX1_rollBack 119 = .ok (.getfield 29, 3) := by decide +kernel
theorem dX1_rollBack_122 : decode cX1_rollBack 122 = .ok (.iload_n 3, 1) := by decide +kernel
theorem dX1_rollBack_123 : decode cX1_rollBack 123 = .ok (.aaload, 1) := by decide +kernel
theorem dX1_rollBack_124 : decode cX1_rollBack 124 = .ok (.iload 4, 2) := by decide +kernel
theorem dX1_rollBack_126 : decode cX1_rollBack 126 = .ok (.bipush (-2), 2) := by decide +kernel
theorem dX1_rollBack_128 : decode cX1_rollBack 128 = .ok (.iastore, 1) := by decide +kernel
theorem dX1_rollBack_129 : decode cX1_rollBack 129 = .ok (.iinc 4 1, 3) := by decide +kernel
theorem dX1_rollBack_132 : decode cX1_rollBack 132 = .ok (.goto (-102), 3) := by decide +kernel
theorem dX1_rollBack_135 : decode cX1_rollBack 135 = .ok (.iinc 3 (-1), 3) := by decide +kernel
theorem dX1_rollBack_138 : decode cX1_rollBack 138 = .ok (.goto (-115), 3) := by decide +kernel
theorem dX1_rollBack_141 : decode cX1_rollBack 141 = .ok (.aload_n 0, 1) := by decide +kernel
theorem dX1_rollBack_142 : decode cX1_rollBack 142 = .ok (.getfield 24, 3) := by decide +kernel
theorem dX1_rollBack_145 : decode cX1_rollBack 145 = .ok (.iconst 0, 1) := by decide +kernel
theorem dX1_rollBack_146 : decode cX1_rollBack 146 = .ok (.aaload, 1) := by decide +kernel
theorem dX1_rollBack_147 : decode cX1_rollBack 147 = .ok (.iconst 0, 1) := by decide +kernel
theorem dX1_rollBack_148 : decode cX1_rollBack 148 = .ok (.laload, 1) := by decide +kernel
theorem dX1_rollBack_149 : decode cX1_rollBack 149 = .ok (.lreturn, 1) := by decide +kernel
set_option maxRecDepth 20000 in
theorem ggX1_deliverAt_X1_level : GoodIn wsX1_deliverAt wsX1_level := goodIn_r _ [9, 10, 11, 12, 13, 14, 15, 16, 17, 18, 19, 20, 21, 22] (by decide +kernel) (by decide +kernel)
set_option maxRecDepth 20000 in
theorem gX1_deliverAt_X1_level : GoodIn wsX1_deliverAt (wsV RX1 102 RX1 yX1_level wsX1_level) := goodIn_app (goodIn_of _ (by decide +kernel)) ggX1_deliverAt_X1_level
theorem dX1_deliverAt_0 : decode cX1_deliverAt 0 = .ok (.aload_n 0, 1) := by decide +kernel
theorem dX1_deliverAt_1 : decode cX1_deliverAt 1 = .ok (.iload_n 1, 1) := by decide +kernel
theorem dX1_deliverAt_2 : decode cX1_deliverAt 2 = .ok (.iload_n 2, 1) := by decide +kernel
theorem dX1_deliverAt_3 : decode cX1_deliverAt 3 = .ok (.invokevirtual 102, 3) := by decide +kernel
theorem dX1_deliverAt_6 : decode cX1_deliverAt 6 = .ok (.istore_n 3, 1) := by decide +kernel
theorem dX1_deliverAt_7 : decode cX1_deliverAt 7 = .ok (.aload_n 0, 1) := by decide +kernel
theorem dX1_deliverAt_8 : decode cX1_deliverAt 8 = .ok (.getfield 24, 3) := by decide +kernel
theorem dX1_deliverAt_11 : decode cX1_deliverAt 11 = .ok (.iload_n 1, 1) := by decide +kernel
theorem dX1_deliverAt_12 : decode cX1_deliverAt 12 = .ok (.aaload, 1) := by decide +kernel
theorem dX1_deliverAt_13 : decode cX1_deliverAt 13 = .ok (.iload_n 2, 1) := by decide +kernel
theorem dX1_deliverAt_14 : decode cX1_deliverAt 14 = .ok (.aload_n 0, 1) := by decide +kernel
theorem dX1_deliverAt_15 : decode cX1_deliverAt 15 = .ok (.getfield 35, 3) := by decide +kernel
theorem dX1_deliverAt_18 : decode cX1_deliverAt 18 = .ok (.iload_n 3, 1) := by decide +kernel
theorem dX1_deliverAt_19 : decode cX1_deliverAt 19 = .ok (.laload, 1) := by decide +kernel
theorem dX1_deliverAt_20 : decode cX1_deliverAt 20 = .ok (.lastore, 1) := by decide +kernel
theorem dX1_deliverAt_21 : decode cX1_deliverAt 21 = .ok (.aload_n 0, 1) := by decide +kernel
theorem dX1_deliverAt_22 : decode cX1_deliverAt 22 = .ok (.getfield 29, 3) := by decide +kernel
theorem dX1_deliverAt_25 : decode cX1_deliverAt 25 = .ok (.iload_n 1, 1) := by decide +kernel
theorem dX1_deliverAt_26 : decode cX1_deliverAt 26 = .ok (.aaload, 1) := by decide +kernel
theorem dX1_deliverAt_27 : decode cX1_deliverAt 27 = .ok (.iload_n 2, 1) := by decide +kernel
theorem dX1_deliverAt_28 : decode cX1_deliverAt 28 = .ok (.aload_n 0, 1) := by decide +kernel
theorem dX1_deliverAt_29 : decode cX1_deliverAt 29 = .ok (.getfield 39, 3) := by decide +kernel
theorem dX1_deliverAt_32 : decode cX1_deliverAt 32 = .ok (.iload_n 3, 1) := by decide +kernel
theorem dX1_deliverAt_33 : decode cX1_deliverAt 33 = .ok (.iaload, 1) := by decide +kernel
theorem dX1_deliverAt_34 : decode cX1_deliverAt 34 = .ok (.iastore, 1) := by decide +kernel
theorem dX1_deliverAt_35 : decode cX1_deliverAt 35 = .ok (.return_, 1) := by decide +kernel
set_option maxRecDepth 20000 in
theorem ggX1_pathsThatEndOn_J7_fill_53178 : GoodIn wsX1_pathsThatEndOn wsJ7_fill_53178 := goodIn_r _ [7] (by decide +kernel) (by decide +kernel)
set_option maxRecDepth 20000 in
theorem gX1_pathsThatEndOn_J7_fill_53178 : GoodIn wsX1_pathsThatEndOn (va_wsS RX1 105 yJ7_fill_53178 wsJ7_fill_53178) := goodIn_app (goodIn_of _ (by decide +kernel)) ggX1_pathsThatEndOn_J7_fill_53178
theorem dX1_pathsThatEndOn_0 : decode cX1_pathsThatEndOn 0 = .ok (.aload_n 0, 1) := by decide +kernel
theorem dX1_pathsThatEndOn_1 : decode cX1_pathsThatEndOn 1 = .ok (.getfield 46, 3) := by decide +kernel
theorem dX1_pathsThatEndOn_4 : decode cX1_pathsThatEndOn 4 = .ok (.iconst 0, 1) := by decide +kernel
theorem dX1_pathsThatEndOn_5 : decode cX1_pathsThatEndOn 5 = .ok (.invokestatic 105, 3) := by decide +kernel
theorem dX1_pathsThatEndOn_8 : decode cX1_pathsThatEndOn 8 = .ok (.aload_n 0, 1) := by decide +kernel
theorem dX1_pathsThatEndOn_9 : decode cX1_pathsThatEndOn 9 = .ok (.getfield 46, 3) := by decide +kernel
theorem dX1_pathsThatEndOn_12 : decode cX1_pathsThatEndOn 12 = .ok (.iconst 0, 1) := by decide +kernel
theorem dX1_pathsThatEndOn_13 : decode cX1_pathsThatEndOn 13 = .ok (.iconst 1, 1) := by decide +kernel
theorem dX1_pathsThatEndOn_14 : decode cX1_pathsThatEndOn 14 = .ok (.iastore, 1) := by decide +kernel
theorem dX1_pathsThatEndOn_15 : decode cX1_pathsThatEndOn 15 = .ok (.iconst 0, 1) := by decide +kernel
theorem dX1_pathsThatEndOn_16 : decode cX1_pathsThatEndOn 16 = .ok (.istore_n 2, 1) := by decide +kernel
theorem dX1_pathsThatEndOn_17 : decode cX1_pathsThatEndOn 17 = .ok (.iload_n 2, 1) := by decide +kernel
theorem dX1_pathsThatEndOn_18 : decode cX1_pathsThatEndOn 18 = .ok (.iload_n 1, 1) := by decide +kernel
theorem dX1_pathsThatEndOn_19 : decode cX1_pathsThatEndOn 19 = .ok (.if_icmp .ge 58, 3) := by decide +kernel
theorem dX1_pathsThatEndOn_22 : decode cX1_pathsThatEndOn 22 = .ok (.iload_n 2, 1) := by decide +kernel
theorem dX1_pathsThatEndOn_23 : decode cX1_pathsThatEndOn 23 = .ok (.istore_n 3, 1) := by decide +kernel
theorem dX1_pathsThatEndOn_24 : decode cX1_pathsThatEndOn 24 = .ok (.iload_n 3, 1) := by decide +kernel
theorem dX1_pathsThatEndOn_25 : decode cX1_pathsThatEndOn 25 = .ok (.ifCond .lt 46, 3) := by decide +kernel
theorem dX1_pathsThatEndOn_28 : decode cX1_pathsThatEndOn 28 = .ok (.aload_n 0, 1) := by decide +kernel
theorem dX1_pathsThatEndOn_29 : decode cX1_pathsThatEndOn 29 = .ok (.getfield 29, 3) := by decide +kernel
theorem dX1_pathsThatEndOn_32 : decode cX1_pathsThatEndOn 32 = .ok (.iload_n 2, 1) := by decide +kernel
theorem dX1_pathsThatEndOn_33 : decode cX1_pathsThatEndOn 33 = .ok (.aaload, 1) := by decide +kernel
theorem dX1_pathsThatEndOn_34 : decode cX1_pathsThatEndOn 34 = .ok (.iload_n 3, 1) := by decide +kernel
theorem dX1_pathsThatEndOn_35 : decode cX1_pathsThatEndOn 35 = .ok (.iaload, 1) := by decide +kernel
theorem dX1_pathsThatEndOn_36 : decode cX1_pathsThatEndOn 36 = .ok (.bipush (-2), 2) := by decide +kernel
theorem dX1_pathsThatEndOn_38 : decode cX1_pathsThatEndOn 38 = .ok (.if_icmp .eq 10, 3) := by decide +kernel
theorem dX1_pathsThatEndOn_41 : decode cX1_pathsThatEndOn 41 = .ok (.aload_n 0, 1) := by decide +kernel
theorem dX1_pathsThatEndOn_42 : decode cX1_pathsThatEndOn 42 = .ok (.getfield 46, 3) := by decide +kernel
theorem dX1_pathsThatEndOn_45 : decode cX1_pathsThatEndOn 45 = .ok (.iload_n 3, 1) := by decide +kernel
theorem dX1_pathsThatEndOn_46 : decode cX1_pathsThatEndOn 46 = .ok (.iconst 0, 1) := by decide +kernel
theorem dX1_pathsThatEndOn_47 : decode cX1_pathsThatEndOn 47 = .ok (.iastore, 1) := by decide +kernel
theorem dX1_pathsThatEndOn_48 : decode cX1_pathsThatEndOn 48 = .ok (.aload_n 0, 1) := by decide +kernel
theorem dX1_pathsThatEndOn_49 : decode cX1_pathsThatEndOn 49 = .ok (.getfield 46, 3) := by decide +kernel
theorem dX1_pathsThatEndOn_52 : decode cX1_pathsThatEndOn 52 = .ok (.iload_n 3, 1) := by decide +kernel
theorem dX1_pathsThatEndOn_53 : decode cX1_pathsThatEndOn 53 = .ok (.iconst 1, 1) := by decide +kernel
theorem dX1_pathsThatEndOn_54 : decode cX1_pathsThatEndOn 54 = .ok (.iadd, 1) := by decide +kernel
theorem dX1_pathsThatEndOn_55 : decode cX1_pathsThatEndOn 55 = .ok (.dup2, 1) := by decide +kernel
theorem dX1_pathsThatEndOn_56 : decode cX1_pathsThatEndOn 56 = .ok (.iaload, 1) := by decide +kernel
theorem dX1_pathsThatEndOn_57 : decode cX1_pathsThatEndOn 57 = .ok (.aload_n 0, 1) := by decide +kernel
theorem dX1_pathsThatEndOn_58 : decode cX1_pathsThatEndOn 58 = .ok (.getfield 46, 3) := by decide +kernel
theorem dX1_pathsThatEndOn_61 : decode cX1_pathsThatEndOn 61 = .ok (.iload_n 3, 1) := by decide +kernel
theorem dX1_pathsThatEndOn_62 : decode cX1_pathsThatEndOn 62 = .ok (.iaload, 1) := by decide +kernel
theorem dX1_pathsThatEndOn_63 : decode cX1_pathsThatEndOn 63 = .ok (.iadd, 1) := by decide +kernel
theorem dX1_pathsThatEndOn_64 : decode cX1_pathsThatEndOn 64 = .ok (.iastore, 1) := by decide +kernel
theorem dX1_pathsThatEndOn_65 : decode cX1_pathsThatEndOn 65 = .ok (.iinc 3 (-1), 3) := by decide +kernel
theorem dX1_pathsThatEndOn_68 : decode cX1_pathsThatEndOn 68 = .ok (.goto (-44), 3) := by decide +kernel
theorem dX1_pathsThatEndOn_71 : decode cX1_pathsThatEndOn 71 = .ok (.iinc 2 1, 3) := by decide +kernel
theorem dX1_pathsThatEndOn_74 : decode cX1_pathsThatEndOn 74 = .ok (.goto (-57), 3) := by decide +kernel
theorem dX1_pathsThatEndOn_77 : decode cX1_pathsThatEndOn 77 = .ok (.iconst 0, 1) := by decide +kernel
theorem dX1_pathsThatEndOn_78 : decode cX1_pathsThatEndOn 78 = .ok (.istore_n 2, 1) := by decide +kernel
theorem dX1_pathsThatEndOn_79 : decode cX1_pathsThatEndOn 79 = .ok (.iconst 0, 1) := by decide +kernel
theorem dX1_pathsThatEndOn_80 : decode cX1_pathsThatEndOn 80 = .ok (.istore_n 3, 1) := by decide +kernel
theorem dX1_pathsThatEndOn_81 : decode cX1_pathsThatEndOn 81 = .ok (.iload_n 3, 1) := by decide +kernel
theorem dX1_pathsThatEndOn_82 : decode cX1_pathsThatEndOn 82 = .ok (.iload_n 1, 1) := by decide +kernel
theorem dX1_pathsThatEndOn_83 : decode cX1_pathsThatEndOn 83 = .ok (.if_icmp .gt 31, 3) := by decide +kernel
theorem dX1_pathsThatEndOn_86 : decode cX1_pathsThatEndOn 86 = .ok (.aload_n 0, 1) := by decide +kernel
theorem dX1_pathsThatEndOn_87 : decode cX1_pathsThatEndOn 87 = .ok (.getfield 29, 3) := by decide +kernel
theorem dX1_pathsThatEndOn_90 : decode cX1_pathsThatEndOn 90 = .ok (.iload_n 1, 1) := by decide +kernel
theorem dX1_pathsThatEndOn_91 : decode cX1_pathsThatEndOn 91 = .ok (.aaload, 1) := by decide +kernel
theorem dX1_pathsThatEndOn_92 : decode cX1_pathsThatEndOn 92 = .ok (.iload_n 3, 1) := by decide +kernel
theorem dX1_pathsThatEndOn_93 : decode cX1_pathsThatEndOn 93 = .ok (.iaload, 1) := by decide +kernel
theorem dX1_pathsThatEndOn_94 : decode cX1_pathsThatEndOn 94 = .ok (.bipush (-2), 2) := by decide +kernel
theorem dX1_pathsThatEndOn_96 : decode cX1_pathsThatEndOn 96 = .ok (.if_icmp .eq 12, 3) := by decide +kernel
theorem dX1_pathsThatEndOn_99 : decode cX1_pathsThatEndOn 99 = .ok (.iload_n 2, 1) := by decide +kernel
theorem dX1_pathsThatEndOn_100 : decode cX1_pathsThatEndOn 100 = .ok (.aload_n 0, 1) := by decide +kernel
theorem dX1_pathsThatEndOn_101 : decode cX1_pathsThatEndOn 101 = .ok (.getfield 46, 3) := by decide +kernel
theorem dX1_pathsThatEndOn_104 : decode cX1_pathsThatEndOn 104 = .ok (.iload_n 3, 1) := by decide +kernel
theorem dX1_pathsThatEndOn_105 : decode cX1_pathsThatEndOn 105 = .ok (.iaload, 1) := by decide +kernel
theorem dX1_pathsThatEndOn_106 : decode cX1_pathsThatEndOn 106 = .ok (.iadd, 1) := by decide +kernel
theorem dX1_pathsThatEndOn_107 : decode cX1_pathsThatEndOn 107 = .ok (.istore_n 2, 1) := by decide +kernel
theorem dX1_pathsThatEndOn_108 : decode cX1_pathsThatEndOn 108 = .ok (.iinc 3 1, 3) := by decide +kernel
theorem dX1_pathsThatEndOn_111 : decode cX1_pathsThatEndOn 111 = .ok (.goto (-30), 3) := by decide +kernel
theorem dX1_pathsThatEndOn_114 : decode cX1_pathsThatEndOn 114 = .ok (.iload_n 2, 1) := by decide +kernel
theorem dX1_pathsThatEndOn_115 : decode cX1_pathsThatEndOn 115 = .ok (.aload_n 0, 1) := by decide +kernel
theorem dX1_pathsThatEndOn_116 : decode cX1_pathsThatEndOn 116 = .ok (.getfield 49, 3) := by decide +kernel
theorem dX1_pathsThatEndOn_119 : decode cX1_pathsThatEndOn 119 = .ok (.iload_n 1, 1) := by decide +kernel
theorem dX1_pathsThatEndOn_120 : decode cX1_pathsThatEndOn 120 = .ok (.isub, 1) := by decide +kernel
theorem dX1_pathsThatEndOn_121 : decode cX1_pathsThatEndOn 121 = .ok (.ishl, 1) := by decide +kernel
theorem dX1_pathsThatEndOn_122 : decode cX1_pathsThatEndOn 122 = .ok (.ireturn, 1) := by decide +kernel
set_option maxRecDepth 20000 in
theorem ggX2_init_X1_init : GoodIn wsX2_init wsX1_init := goodIn_r _ [21, 22, 2, 3, 23, 24, 25, 26, 27, 15, 28, 29, 13, 30, 31, 32, 33, 34, 35, 49, 50, 51, 52, 53, 54, 55, 56, 57, 58, 59, 60] (by decide +kernel) (by decide +kernel)
set_option maxRecDepth 20000 in
theorem gX2_init_X1_init_n27 : GoodIn wsX2_init (wsX1_init) := ggX2_init_X1_init
set_option maxRecDepth 20000 in
theorem ggX2_init_X0_init : GoodIn wsX2_init wsX0_init := goodIn_r _ [37, 38, 2, 3, 13, 39, 61, 62, 63, 64, 65, 66, 67, 68, 69, 70] (by decide +kernel) (by decide +kernel)
set_option maxRecDepth 20000 in
theorem gX2_init_X0_init_n43 : GoodIn wsX2_init (wsX0_init) := ggX2_init_X0_init
theorem dX2_init_0 : decode cX2_init 0 = .ok (.aload_n 0, 1) := by decide +kernel
theorem dX2_init_1 : decode cX2_init 1 = .ok (.invokespecial 3, 3) := by decide +kernel
theorem dX2_init_4 : decode cX2_init 4 = .ok (.aload_n 0, 1) := by decide +kernel
theorem dX2_init_5 : decode cX2_init 5 = .ok (.bipush 8, 2) := by decide +kernel
theorem dX2_init_7 : decode cX2_init 7 = .ok (.anewarray 9, 3) := by decide +kernel
theorem dX2_init_10 : decode cX2_init 10 = .ok (.putfield 11, 3) := by decide +kernel
theorem dX2_init_13 : decode cX2_init 13 = .ok (.aload_n 0, 1) := by decide +kernel
theorem dX2_init_14 : decode cX2_init 14 = .ok (.sipush 600, 3) := by decide +kernel
theorem dX2_init_17 : decode cX2_init 17 = .ok (.putfield 15, 3) := by decide +kernel
theorem dX2_init_20 : decode cX2_init 20 = .ok (.aload_n 0, 1) := by decide +kernel
theorem dX2_init_21 : decode cX2_init 21 = .ok (.iconst 1, 1) := by decide +kernel
theorem dX2_init_22 : decode cX2_init 22 = .ok (.putfield 19, 3) := by decide +kernel
theorem dX2_init_25 : decode cX2_init 25 = .ok (.aload_n 0, 1) := by decide +kernel
theorem dX2_init_26 : decode cX2_init 26 = .ok (.bipush 40, 2) := by decide +kernel
theorem dX2_init_28 : decode cX2_init 28 = .ok (.putfield 22, 3) := by decide +kernel
theorem dX2_init_31 : decode cX2_init 31 = .ok (.aload_n 0, 1) := by decide +kernel
theorem dX2_init_32 : decode cX2_init 32 = .ok (.new 25, 3) := by decide +kernel
theorem dX2_init_35 : decode cX2_init 35 = .ok (.dup, 1) := by decide +kernel
theorem dX2_init_36 : decode cX2_init 36 = .ok (.invokespecial 27, 3) := by decide +kernel
theorem dX2_init_39 : decode cX2_init 39 = .ok (.putfield 28, 3) := by decide +kernel
theorem dX2_init_42 : decode cX2_init 42 = .ok (.aload_n 0, 1) := by decide +kernel
theorem dX2_init_43 : decode cX2_init 43 = .ok (.bipush 8, 2) := by decide +kernel
theorem dX2_init_45 : decode cX2_init 45 = .ok (.newarray .int, 2) := by decide +kernel
theorem dX2_init_47 : decode cX2_init 47 = .ok (.putfield 32, 3) := by decide +kernel
theorem dX2_init_50 : decode cX2_init 50 = .ok (.aload_n 0, 1) := by decide +kernel
theorem dX2_init_51 : decode cX2_init 51 = .ok (.bipush 8, 2) := by decide +kernel
theorem dX2_init_53 : decode cX2_init 53 = .ok (.newarray .long, 2) := by decide +kernel
theorem dX2_init_55 : decode cX2_init 55 = .ok (.putfield 36, 3) := by decide +kernel
theorem dX2_init_58 : decode cX2_init 58 = .ok (.aload_n 0, 1) := by decide +kernel
theorem dX2_init_59 : decode cX2_init 59 = .ok (.bipush 8, 2) := by decide +kernel
theorem dX2_init_61 : decode cX2_init 61 = .ok (.newarray .int, 2) := by decide +kernel
theorem dX2_init_63 : decode cX2_init 63 = .ok (.putfield 40, 3) := by decide +kernel
theorem dX2_init_66 : decode cX2_init 66 = .ok (.iconst 0, 1) := by decide +kernel
theorem dX2_init_67 : decode cX2_init 67 = .ok (.istore_n 1, 1) := by decide +kernel
theorem dX2_init_68 : decode cX2_init 68 = .ok (.iload_n 1, 1) := by decide +kernel
theorem dX2_init_69 : decode cX2_init 69 = .ok (.bipush 8, 2) := by decide +kernel
theorem dX2_init_71 : decode cX2_init 71 = .ok (.if_icmp .ge 22, 3) := by decide +kernel
theorem dX2_init_74 : decode cX2_init 74 = .ok (.aload_n 0, 1) := by decide +kernel
theorem dX2_init_75 : decode cX2_init 75 = .ok (.getfield 11, 3) := by decide +kernel
theorem dX2_init_78 : decode cX2_init 78 = .ok (.iload_n 1, 1) := by decide +kernel
theorem dX2_init_79 : decode cX2_init 79 = .ok (.new 9, 3) := by decide +kernel
theorem dX2_init_82 : decode cX2_init 82 = .ok (.dup, 1) := by decide +kernel
theorem dX2_init_83 : decode cX2_init 83 = .ok (.invokespecial 43, 3) := by decide +kernel
theorem dX2_init_86 : decode cX2_init 86 = .ok (.aastore, 1) := by decide +kernel
theorem dX2_init_87 : decode cX2_init 87 = .ok (.iinc 1 1, 3) := by decide +kernel
theorem dX2_init_90 : decode cX2_init 90 = .ok (.goto (-22), 3) := by decide +kernel
theorem dX2_init_93 : decode cX2_init 93 = .ok (.return_, 1) := by decide +kernel
set_option maxRecDepth 20000 in
theorem ggX2_bond_X2_within : GoodIn wsX2_bond wsX2_within := goodIn_r _ [7] (by decide +kernel) (by decide +kernel)
set_option maxRecDepth 20000 in
theorem gX2_bond_X2_within : GoodIn wsX2_bond (va_wsS RX2 47 yX2_within wsX2_within) := goodIn_app (goodIn_of _ (by decide +kernel)) ggX2_bond_X2_within
set_option maxRecDepth 20000 in
theorem ggX2_bond_X2_canBe : GoodIn wsX2_bond wsX2_canBe := goodIn_r _ [10, 4, 5, 6, 7] (by decide +kernel) (by decide +kernel)
set_option maxRecDepth 20000 in
theorem gX2_bond_X2_canBe : GoodIn wsX2_bond (va_wsS RX2 51 yX2_canBe wsX2_canBe) := goodIn_app (goodIn_of _ (by decide +kernel)) ggX2_bond_X2_canBe
set_option maxRecDepth 20000 in
theorem ggX2_bond_X0_become : GoodIn wsX2_bond wsX0_become := goodIn_r _ [15, 16, 17, 18, 19, 20, 21, 22, 23, 24, 25, 26, 14, 27, 28, 29, 30, 31, 32, 33, 34, 35, 36, 37, 38, 39, 40, 41, 42, 65, 66, 67, 68, 69, 70, 71, 72, 73, 74] (by decide +kernel) (by decide +kernel)
set_option maxRecDepth 20000 in
theorem gX2_bond_X0_become : GoodIn wsX2_bond (wsV RX2 55 RX0 yX0_become wsX0_become) := goodIn_app (goodIn_of _ (by decide +kernel)) ggX2_bond_X0_become
set_option maxRecDepth 20000 in
theorem ggX2_bond_X0_factorBy : GoodIn wsX2_bond wsX0_factorBy := goodIn_r _ [46, 47, 48, 49, 50, 14, 51, 23, 5, 6, 7, 52, 53, 54, 55, 18, 29, 30, 65, 66, 67, 68, 69, 70, 71, 72, 73, 74] (by decide +kernel) (by decide +kernel)
set_option maxRecDepth 20000 in
theorem gX2_bond_X0_factorBy : GoodIn wsX2_bond (wsV RX2 59 RX0 yX0_factorBy wsX0_factorBy) := goodIn_app (goodIn_of _ (by decide +kernel)) ggX2_bond_X0_factorBy
theorem dX2_bond_0 : decode cX2_bond 0 = .ok (.aload_n 0, 1) := by decide +kernel
theorem dX2_bond_1 : decode cX2_bond 1 = .ok (.getfield 44, 3) := by decide +kernel
theorem dX2_bond_4 : decode cX2_bond 4 = .ok (.bipush 8, 2) := by decide +kernel
theorem dX2_bond_6 : decode cX2_bond 6 = .ok (.if_icmp .ge 28, 3) := by decide +kernel
theorem dX2_bond_9 : decode cX2_bond 9 = .ok (.iload 5, 2) := by decide +kernel
theorem dX2_bond_11 : decode cX2_bond 11 = .ok (.sipush (-200), 3) := by decide +kernel
theorem dX2_bond_14 : decode cX2_bond 14 = .ok (.sipush 200, 3) := by decide +kernel
theorem dX2_bond_17 : decode cX2_bond 17 = .ok (.invokestatic 47, 3) := by decide +kernel
theorem dX2_bond_20 : decode cX2_bond 20 = .ok (.ifCond .eq 14, 3) := by decide +kernel
theorem dX2_bond_23 : decode cX2_bond 23 = .ok (.iload_n 1, 1) := by decide +kernel
theorem dX2_bond_24 : decode cX2_bond 24 = .ok (.iload_n 2, 1) := by decide +kernel
theorem dX2_bond_25 : decode cX2_bond 25 = .ok (.iload_n 3, 1) := by decide +kernel
theorem dX2_bond_26 : decode cX2_bond 26 = .ok (.iload 4, 2) := by decide +kernel
theorem dX2_bond_28 : decode cX2_bond 28 = .ok (.invokestatic 51, 3) := by decide +kernel
theorem dX2_bond_31 : decode cX2_bond 31 = .ok (.ifCond .ne 5, 3) := by decide +kernel
theorem dX2_bond_34 : decode cX2_bond 34 = .ok (.iconst (-1), 1) := by decide +kernel
theorem dX2_bond_35 : decode cX2_bond 35 = .ok (.ireturn, 1) := by decide +kernel
theorem dX2_bond_36 : decode cX2_bond 36 = .ok (.aload_n 0, 1) := by decide +kernel
theorem dX2_bond_37 : decode cX2_bond 37 = .ok (.getfield 11, 3) := by decide +kernel
theorem dX2_bond_40 : decode cX2_bond 40 = .ok (.aload_n 0, 1) := by decide +kernel
theorem dX2_bond_41 : decode cX2_bond 41 = .ok (.getfield 44, 3) := by decide +kernel
theorem dX2_bond_44 : decode cX2_bond 44 = .ok (.aaload, 1) := by decide +kernel
theorem dX2_bond_45 : decode cX2_bond 45 = .ok (.astore 6, 2) := by decide +kernel
theorem dX2_bond_47 : decode cX2_bond 47 = .ok (.aload 6, 2) := by decide +kernel
theorem dX2_bond_49 : decode cX2_bond 49 = .ok (.iload_n 1, 1) := by decide +kernel
theorem dX2_bond_50 : decode cX2_bond 50 = .ok (.iload_n 2, 1) := by decide +kernel
theorem dX2_bond_51 : decode cX2_bond 51 = .ok (.iload_n 3, 1) := by decide +kernel
theorem dX2_bond_52 : decode cX2_bond 52 = .ok (.iload 4, 2) := by decide +kernel
theorem dX2_bond_54 : decode cX2_bond 54 = .ok (.iload 5, 2) := by decide +kernel
theorem dX2_bond_56 : decode cX2_bond 56 = .ok (.invokevirtual 55, 3) := by decide +kernel
theorem dX2_bond_59 : decode cX2_bond 59 = .ok (.aload 6, 2) := by decide +kernel
theorem dX2_bond_61 : decode cX2_bond 61 = .ok (.aload_n 0, 1) := by decide +kernel
theorem dX2_bond_62 : decode cX2_bond 62 = .ok (.getfield 15, 3) := by decide +kernel
theorem dX2_bond_65 : decode cX2_bond 65 = .ok (.invokevirtual 59, 3) := by decide +kernel
theorem dX2_bond_68 : decode cX2_bond 68 = .ok (.aload_n 0, 1) := by decide +kernel
theorem dX2_bond_69 : decode cX2_bond 69 = .ok (.dup, 1) := by decide +kernel
theorem dX2_bond_70 : decode cX2_bond 70 = .ok (.getfield 44, 3) := by decide +kernel
theorem dX2_bond_73 : decode cX2_bond 73 = .ok (.iconst 1, 1) := by decide +kernel
theorem dX2_bond_74 : decode cX2_bond 74 = .ok (.iadd, 1) := by decide +kernel
theorem dX2_bond_75 : decode cX2_bond 75 = .ok (.putfield 44, 3) := by decide +kernel
theorem dX2_bond_78 : decode cX2_bond 78 = .ok (.aload_n 0, 1) := by decide +kernel
theorem dX2_bond_79 : decode cX2_bond 79 = .ok (.getfield 44, 3) := by decide +kernel
theorem dX2_bond_82 : decode cX2_bond 82 = .ok (.iconst 1, 1) := by decide +kernel
theorem dX2_bond_83 : decode cX2_bond 83 = .ok (.isub, 1) := by decide +kernel
theorem dX2_bond_84 : decode cX2_bond 84 = .ok (.ireturn, 1) := by decide +kernel
set_option maxRecDepth 20000 in
theorem ggX2_drop_X2_has : GoodIn wsX2_drop wsX2_has := goodIn_r _ [7, 2, 8, 9, 6, 10, 11, 12, 13, 14, 15, 16, 17, 18, 19] (by decide +kernel) (by decide +kernel)
set_option maxRecDepth 20000 in
theorem gX2_drop_X2_has : GoodIn wsX2_drop (wsV RX2 63 RX2 yX2_has wsX2_has) := goodIn_app (goodIn_of _ (by decide +kernel)) ggX2_drop_X2_has
theorem dX2_drop_0 : decode cX2_drop 0 = .ok (.aload_n 0, 1) := by decide +kernel
theorem dX2_drop_1 : decode cX2_drop 1 = .ok (.iload_n 1, 1) := by decide +kernel
theorem dX2_drop_2 : decode cX2_drop 2 = .ok (.invokevirtual 63, 3) := by decide +kernel
theorem dX2_drop_5 : decode cX2_drop 5 = .ok (.ifCond .ne 5, 3) := by decide +kernel
theorem dX2_drop_8 : decode cX2_drop 8 = .ok (.iconst (-1), 1) := by decide +kernel
theorem dX2_drop_9 : decode cX2_drop 9 = .ok (.ireturn, 1) := by decide +kernel
theorem dX2_drop_10 : decode cX2_drop 10 = .ok (.aload_n 0, 1) := by decide +kernel
theorem dX2_drop_11 : decode cX2_drop 11 = .ok (.getfield 11, 3) := by decide +kernel
theorem dX2_drop_14 : decode cX2_drop 14 = .ok (.iload_n 1, 1) := by decide +kernel
theorem dX2_drop_15 : decode cX2_drop 15 = .ok (.aaload, 1) := by decide +kernel
theorem dX2_drop_16 : decode cX2_drop 16 = .ok (.astore_n 2, 1) := by decide +kernel
theorem dX2_drop_17 : decode cX2_drop 17 = .ok (.iload_n 1, 1) := by decide +kernel
theorem dX2_drop_18 : decode cX2_drop 18 = .ok (.istore_n 3, 1) := by decide +kernel
theorem dX2_drop_19 : decode cX2_drop 19 = .ok (.iload_n 3, 1) := by decide +kernel
theorem dX2_drop_20 : decode cX2_drop 20 = .ok (.iconst 1, 1) := by decide +kernel
theorem dX2_drop_21 : decode cX2_drop 21 = .ok (.iadd, 1) := by decide +kernel
theorem dX2_drop_22 : decode cX2_drop 22 = .ok (.aload_n 0, 1) := by decide +kernel
theorem dX2_drop_23 : decode cX2_drop 23 = .ok (.getfield 44, 3) := by decide +kernel
theorem dX2_drop_26 : decode cX2_drop 26 = .ok (.if_icmp .ge 23, 3) := by decide +kernel
theorem dX2_drop_29 : decode cX2_drop 29 = .ok (.aload_n 0, 1) := by decide +kernel
theorem dX2_drop_30 : decode cX2_drop 30 = .ok (.getfield 11, 3) := by decide +kernel
theorem dX2_drop_33 : decode cX2_drop 33 = .ok (.iload_n 3, 1) := by decide +kernel
theorem dX2_drop_34 : decode cX2_drop 34 = .ok (.aload_n 0, 1) := by decide +kernel
theorem dX2_drop_35 : decode cX2_drop 35 = .ok (.getfield 11, 3) := by decide +kernel
theorem dX2_drop_38 : decode cX2_drop 38 = .ok (.iload_n 3, 1) := by decide +kernel
theorem dX2_drop_39 : decode cX2_drop 39 = .ok (.iconst 1, 1) := by decide +kernel
theorem dX2_drop_40 : decode cX2_drop 40 = .ok (.iadd, 1) := by decide +kernel
theorem dX2_drop_41 : decode cX2_drop 41 = .ok (.aaload, 1) := by decide +kernel
theorem dX2_drop_42 : decode cX2_drop 42 = .ok (.aastore, 1) := by decide +kernel
theorem dX2_drop_43 : decode cX2_drop 43 = .ok (.iinc 3 1, 3) := by decide +kernel
theorem dX2_drop_46 : decode cX2_drop 46 = .ok (.goto (-27), 3) := by decide +kernel
theorem dX2_drop_49 : decode cX2_drop 49 = .ok (.aload_n 0, 1) := by decide +kernel
theorem dX2_drop_50 : decode cX2_drop 50 = .ok (.dup, 1) := by decide +kernel
theorem dX2_drop_51 : decode cX2_drop 51 = .ok (.getfield 44, 3) := by decide +kernel
theorem dX2_drop_54 : decode cX2_drop 54 = .ok (.iconst 1, 1) := by decide +kernel
theorem dX2_drop_55 : decode cX2_drop 55 = .ok (.isub, 1) := by decide +kernel
theorem dX2_drop_56 : decode cX2_drop 56 = .ok (.putfield 44, 3) := by decide +kernel
theorem dX2_drop_59 : decode cX2_drop 59 = .ok (.aload_n 0, 1) := by decide +kernel
theorem dX2_drop_60 : decode cX2_drop 60 = .ok (.getfield 11, 3) := by decide +kernel
theorem dX2_drop_63 : decode cX2_drop 63 = .ok (.aload_n 0, 1) := by decide +kernel
theorem dX2_drop_64 : decode cX2_drop 64 = .ok (.getfield 44, 3) := by decide +kernel
theorem dX2_drop_67 : decode cX2_drop 67 = .ok (.aload_n 2, 1) := by decide +kernel
theorem dX2_drop_68 : decode cX2_drop 68 = .ok (.aastore, 1) := by decide +kernel
theorem dX2_drop_69 : decode cX2_drop 69 = .ok (.aload_n 0, 1) := by decide +kernel
theorem dX2_drop_70 : decode cX2_drop 70 = .ok (.getfield 44, 3) := by decide +kernel
theorem dX2_drop_73 : decode cX2_drop 73 = .ok (.ireturn, 1) := by decide +kernel
set_option maxRecDepth 20000 in
theorem ggX2_alter_X2_has : GoodIn wsX2_alter wsX2_has := goodIn_r _ [6, 7, 8, 9, 5, 10, 27, 28, 29, 30, 31, 32, 33, 34, 35] (by decide +kernel) (by decide +kernel)
set_option maxRecDepth 20000 in
theorem gX2_alter_X2_has : GoodIn wsX2_alter (wsV RX2 63 RX2 yX2_has wsX2_has) := goodIn_app (goodIn_of _ (by decide +kernel)) ggX2_alter_X2_has
set_option maxRecDepth 20000 in
theorem ggX2_alter_X0_changeSpread : GoodIn wsX2_alter wsX0_changeSpread := goodIn_r _ [15, 16, 9, 5, 10, 36, 37, 38, 39, 40, 41, 42, 43, 44, 45] (by decide +kernel) (by decide +kernel)
set_option maxRecDepth 20000 in
theorem gX2_alter_X0_changeSpread : GoodIn wsX2_alter (wsV RX2 67 RX0 yX0_changeSpread wsX0_changeSpread) := goodIn_app (goodIn_of _ (by decide +kernel)) ggX2_alter_X0_changeSpread
set_option maxRecDepth 20000 in
theorem ggX2_alter_X0_changeStock : GoodIn wsX2_alter wsX0_changeStock := goodIn_r _ [20, 21, 9, 5, 10, 36, 37, 38, 39, 40, 41, 42, 43, 44, 45] (by decide +kernel) (by decide +kernel)
set_option maxRecDepth 20000 in
theorem gX2_alter_X0_changeStock : GoodIn wsX2_alter (wsV RX2 70 RX0 yX0_changeStock wsX0_changeStock) := goodIn_app (goodIn_of _ (by decide +kernel)) ggX2_alter_X0_changeStock
set_option maxRecDepth 20000 in
theorem ggX2_alter_X0_changeBarred : GoodIn wsX2_alter wsX0_changeBarred := goodIn_r _ [25, 26, 9, 5, 10, 36, 37, 38, 39, 40, 41, 42, 43, 44, 45] (by decide +kernel) (by decide +kernel)
set_option maxRecDepth 20000 in
theorem gX2_alter_X0_changeBarred : GoodIn wsX2_alter (wsV RX2 73 RX0 yX0_changeBarred wsX0_changeBarred) := goodIn_app (goodIn_of _ (by decide +kernel)) ggX2_alter_X0_changeBarred
theorem dX2_alter_0 : decode cX2_alter 0 = .ok (.aload_n 0, 1) := by decide +kernel
theorem dX2_alter_1 : decode cX2_alter 1 = .ok (.iload_n 1, 1) := by decide +kernel
theorem dX2_alter_2 : decode cX2_alter 2 = .ok (.invokevirtual 63, 3) := by decide +kernel
theorem dX2_alter_5 : decode cX2_alter 5 = .ok (.ifCond .ne 5, 3) := by decide +kernel
theorem dX2_alter_8 : decode cX2_alter 8 = .ok (.iconst 0, 1) := by decide +kernel
theorem dX2_alter_9 : decode cX2_alter 9 = .ok (.ireturn, 1) := by decide +kernel
theorem dX2_alter_10 : decode cX2_alter 10 = .ok (.aload_n 0, 1) := by decide +kernel
theorem dX2_alter_11 : decode cX2_alter 11 = .ok (.getfield 11, 3) := by decide +kernel
theorem dX2_alter_14 : decode cX2_alter 14 = .ok (.iload_n 1, 1) := by decide +kernel
theorem dX2_alter_15 : decode cX2_alter 15 = .ok (.aaload, 1) := by decide +kernel
theorem dX2_alter_16 : decode cX2_alter 16 = .ok (.astore 4, 2) := by decide +kernel
theorem dX2_alter_18 : decode cX2_alter 18 = .ok (.iload_n 2, 1) := by decide +kernel
theorem dX2_alter_19 : decode cX2_alter 19 = .ok (.tableswitch 46 0 2 #[25, 32, 39], 25) := by decide +kernel
theorem dX2_alter_44 : decode cX2_alter 44 = .ok (.aload 4, 2) := by decide +kernel
theorem dX2_alter_46 : decode cX2_alter 46 = .ok (.iload_n 3, 1) := by decide +kernel
theorem dX2_alter_47 : decode cX2_alter 47 = .ok (.invokevirtual 67, 3) := by decide +kernel
theorem dX2_alter_50 : decode cX2_alter 50 = .ok (.ireturn, 1) := by decide +kernel
theorem dX2_alter_51 : decode cX2_alter 51 = .ok (.aload 4, 2) := by decide +kernel
theorem dX2_alter_53 : decode cX2_alter 53 = .ok (.iload_n 3, 1) := by decide +kernel
theorem dX2_alter_54 : decode cX2_alter 54 = .ok (.invokevirtual 70, 3) := by decide +kernel
theorem dX2_alter_57 : decode cX2_alter 57 = .ok (.ireturn, 1) := by decide +kernel
theorem dX2_alter_58 : decode cX2_alter 58 = .ok (.aload 4, 2) := by decide +kernel
theorem dX2_alter_60 : decode cX2_alter 60 = .ok (.iload_n 3, 1) := by decide +kernel
theorem dX2_alter_61 : decode cX2_alter 61 = .ok (.invokevirtual 73, 3) := by decide +kernel
theorem dX2_alter_64 : decode cX2_alter 64 = .ok (.ireturn, 1) := by decide +kernel
theorem dX2_alter_65 : decode cX2_alter 65 = .ok (.iconst 0, 1) := by decide +kernel
theorem dX2_alter_66 : decode cX2_alter 66 = .ok (.ireturn, 1) := by decide +kernel
set_option maxRecDepth 20000 in
theorem ggX2_of_X2_has : GoodIn wsX2_of wsX2_has := goodIn_r _ [16, 17, 18, 19, 15, 20, 27, 28, 29, 30, 31, 32, 33, 34, 35] (by decide +kernel) (by decide +kernel)
set_option maxRecDepth 20000 in
theorem gX2_of_X2_has : GoodIn wsX2_of (wsV RX2 63 RX2 yX2_has wsX2_has) := goodIn_app (goodIn_of _ (by decide +kernel)) ggX2_of_X2_has
set_option maxRecDepth 20000 in
theorem ggX2_of_X2_isEligible : GoodIn wsX2_of wsX2_isEligible := goodIn_r _ [24, 3, 10, 6, 25, 26, 11, 18, 19, 15, 20, 27, 28, 29, 30, 31, 32, 33, 34, 35, 36, 37, 38, 39, 40, 41, 42, 43, 44, 45] (by decide +kernel) (by decide +kernel)
set_option maxRecDepth 20000 in
theorem gX2_of_X2_isEligible : GoodIn wsX2_of (wsV RX2 107 RX2 yX2_isEligible wsX2_isEligible) := goodIn_app (goodIn_of _ (by decide +kernel)) ggX2_of_X2_isEligible
theorem dX2_of_0 : decode cX2_of 0 = .ok (.aload_n 0, 1) := by decide +kernel
theorem dX2_of_1 : decode cX2_of 1 = .ok (.iload_n 1, 1) := by decide +kernel
theorem dX2_of_2 : decode cX2_of 2 = .ok (.invokevirtual 63, 3) := by decide +kernel
theorem dX2_of_5 : decode cX2_of 5 = .ok (.ifCond .ne 13, 3) := by decide +kernel
theorem dX2_of_8 : decode cX2_of 8 = .ok (.new 76, 3) := by decide +kernel
theorem dX2_of_11 : decode cX2_of 11 = .ok (.dup, 1) := by decide +kernel
theorem dX2_of_12 : decode cX2_of 12 = .ok (.ldc 78, 2) := by decide +kernel
theorem dX2_of_14 : decode cX2_of 14 = .ok (.invokespecial 80, 3) := by decide +kernel
theorem dX2_of_17 : decode cX2_of 17 = .ok (.athrow, 1) := by decide +kernel
theorem dX2_of_18 : decode cX2_of 18 = .ok (.aload_n 0, 1) := by decide +kernel
theorem dX2_of_19 : decode cX2_of 19 = .ok (.getfield 11, 3) := by decide +kernel
theorem dX2_of_22 : decode cX2_of 22 = .ok (.iload_n 1, 1) := by decide +kernel
theorem dX2_of_23 : decode cX2_of 23 = .ok (.aaload, 1) := by decide +kernel
theorem dX2_of_24 : decode cX2_of 24 = .ok (.astore_n 3, 1) := by decide +kernel
theorem dX2_of_25 : decode cX2_of 25 = .ok (.iload_n 2, 1) := by decide +kernel
theorem dX2_of_26 : decode cX2_of 26 = .ok (.tableswitch 104 0 8 #[50, 55, 60, 65, 70, 75, 80, 85, 90], 50) := by decide +kernel
theorem dX2_of_76 : decode cX2_of 76 = .ok (.aload_n 3, 1) := by decide +kernel
theorem dX2_of_77 : decode cX2_of 77 = .ok (.getfield 83, 3) := by decide +kernel
theorem dX2_of_80 : decode cX2_of 80 = .ok (.ireturn, 1) := by decide +kernel
theorem dX2_of_81 : decode cX2_of 81 = .ok (.aload_n 3, 1) := by decide +kernel
theorem dX2_of_82 : decode cX2_of 82 = .ok (.getfield 86, 3) := by decide +kernel
theorem dX2_of_85 : decode cX2_of 85 = .ok (.ireturn, 1) := by decide +kernel
theorem dX2_of_86 : decode cX2_of 86 = .ok (.aload_n 3, 1) := by decide +kernel
theorem dX2_of_87 : decode cX2_of 87 = .ok (.getfield 89, 3) := by decide +kernel
theorem dX2_of_90 : decode cX2_of 90 = .ok (.ireturn, 1) := by decide +kernel
theorem dX2_of_91 : decode cX2_of 91 = .ok (.aload_n 3, 1) := by decide +kernel
theorem dX2_of_92 : decode cX2_of 92 = .ok (.getfield 92, 3) := by decide +kernel
theorem dX2_of_95 : decode cX2_of 95 = .ok (.ireturn, 1) := by decide +kernel
theorem dX2_of_96 : decode cX2_of 96 = .ok (.aload_n 3, 1) := by decide +kernel
theorem dX2_of_97 : decode cX2_of 97 = .ok (.getfield 95, 3) := by decide +kernel
theorem dX2_of_100 : decode cX2_of 100 = .ok (.ireturn, 1) := by decide +kernel
theorem dX2_of_101 : decode cX2_of 101 = .ok (.aload_n 3, 1) := by decide +kernel
theorem dX2_of_102 : decode cX2_of 102 = .ok (.getfield 98, 3) := by decide +kernel
theorem dX2_of_105 : decode cX2_of 105 = .ok (.ireturn, 1) := by decide +kernel
theorem dX2_of_106 : decode cX2_of 106 = .ok (.aload_n 3, 1) := by decide +kernel
theorem dX2_of_107 : decode cX2_of 107 = .ok (.getfield 101, 3) := by decide +kernel
theorem dX2_of_110 : decode cX2_of 110 = .ok (.ireturn, 1) := by decide +kernel
theorem dX2_of_111 : decode cX2_of 111 = .ok (.aload_n 3, 1) := by decide +kernel
theorem dX2_of_112 : decode cX2_of 112 = .ok (.getfield 104, 3) := by decide +kernel
theorem dX2_of_115 : decode cX2_of 115 = .ok (.ireturn, 1) := by decide +kernel
theorem dX2_of_116 : decode cX2_of 116 = .ok (.aload_n 0, 1) := by decide +kernel
theorem dX2_of_117 : decode cX2_of 117 = .ok (.iload_n 1, 1) := by decide +kernel
theorem dX2_of_118 : decode cX2_of 118 = .ok (.invokevirtual 107, 3) := by decide +kernel
theorem dX2_of_121 : decode cX2_of 121 = .ok (.ifCond .eq 7, 3) := by decide +kernel
theorem dX2_of_124 : decode cX2_of 124 = .ok (.iconst 1, 1) := by decide +kernel
theorem dX2_of_125 : decode cX2_of 125 = .ok (.goto 4, 3) := by decide +kernel
theorem dX2_of_128 : decode cX2_of 128 = .ok (.iconst 0, 1) := by decide +kernel
theorem dX2_of_129 : decode cX2_of 129 = .ok (.ireturn, 1) := by decide +kernel
theorem dX2_of_130 : decode cX2_of 130 = .ok (.new 76, 3) := by decide +kernel
theorem dX2_of_133 : decode cX2_of 133 = .ok (.dup, 1) := by decide +kernel
theorem dX2_of_134 : decode cX2_of 134 = .ok (.ldc 110, 2) := by decide +kernel
theorem dX2_of_136 : decode cX2_of 136 = .ok (.invokespecial 80, 3) := by decide +kernel
theorem dX2_of_139 : decode cX2_of 139 = .ok (.athrow, 1) := by decide +kernel
set_option maxRecDepth 20000 in
theorem ggX2_flow_X2_has : GoodIn wsX2_flow wsX2_has := goodIn_r _ [8, 9, 10, 11, 7, 12, 13, 14, 15, 16, 17, 18, 19, 20, 21] (by decide +kernel) (by decide +kernel)
set_option maxRecDepth 20000 in
theorem gX2_flow_X2_has : GoodIn wsX2_flow (wsV RX2 63 RX2 yX2_has wsX2_has) := goodIn_app (goodIn_of _ (by decide +kernel)) ggX2_flow_X2_has
set_option maxRecDepth 20000 in
theorem ggX2_flow_X2_within : GoodIn wsX2_flow wsX2_within := goodIn_r _ [12] (by decide +kernel) (by decide +kernel)
set_option maxRecDepth 20000 in
theorem gX2_flow_X2_within : GoodIn wsX2_flow (va_wsS RX2 47 yX2_within wsX2_within) := goodIn_app (goodIn_of _ (by decide +kernel)) ggX2_flow_X2_within
theorem dX2_flow_0 : decode cX2_flow 0 = .ok (.aload_n 0, 1) := by decide +kernel
theorem dX2_flow_1 : decode cX2_flow 1 = .ok (.iload_n 1, 1) := by decide +kernel
theorem dX2_flow_2 : decode cX2_flow 2 = .ok (.invokevirtual 63, 3) := by decide +kernel
theorem dX2_flow_5 : decode cX2_flow 5 = .ok (.ifCond .eq 20, 3) := by decide +kernel
theorem dX2_flow_8 : decode cX2_flow 8 = .ok (.iload_n 2, 1) := by decide +kernel
theorem dX2_flow_9 : decode cX2_flow 9 = .ok (.iconst 1, 1) := by decide +kernel
theorem dX2_flow_10 : decode cX2_flow 10 = .ok (.aload_n 0, 1) := by decide +kernel
theorem dX2_flow_11 : decode cX2_flow 11 = .ok (.getfield 11, 3) := by decide +kernel
theorem dX2_flow_14 : decode cX2_flow 14 = .ok (.iload_n 1, 1) := by decide +kernel
theorem dX2_flow_15 : decode cX2_flow 15 = .ok (.aaload, 1) := by decide +kernel
theorem dX2_flow_16 : decode cX2_flow 16 = .ok (.getfield 89, 3) := by decide +kernel
theorem dX2_flow_19 : decode cX2_flow 19 = .ok (.invokestatic 47, 3) := by decide +kernel
theorem dX2_flow_22 : decode cX2_flow 22 = .ok (.ifCond .ne 5, 3) := by decide +kernel
theorem dX2_flow_25 : decode cX2_flow 25 = .ok (.iconst (-1), 1) := by decide +kernel
theorem dX2_flow_26 : decode cX2_flow 26 = .ok (.ireturn, 1) := by decide +kernel
theorem dX2_flow_27 : decode cX2_flow 27 = .ok (.aload_n 0, 1) := by decide +kernel
theorem dX2_flow_28 : decode cX2_flow 28 = .ok (.getfield 11, 3) := by decide +kernel
theorem dX2_flow_31 : decode cX2_flow 31 = .ok (.iload_n 1, 1) := by decide +kernel
theorem dX2_flow_32 : decode cX2_flow 32 = .ok (.aaload, 1) := by decide +kernel
theorem dX2_flow_33 : decode cX2_flow 33 = .ok (.getfield 112, 3) := by decide +kernel
theorem dX2_flow_36 : decode cX2_flow 36 = .ok (.iload_n 2, 1) := by decide +kernel
theorem dX2_flow_37 : decode cX2_flow 37 = .ok (.iaload, 1) := by decide +kernel
theorem dX2_flow_38 : decode cX2_flow 38 = .ok (.ireturn, 1) := by decide +kernel
set_option maxRecDepth 20000 in
theorem ggX2_price_X2_has : GoodIn wsX2_price wsX2_has := goodIn_r _ [6, 7, 8, 9, 5, 10, 36, 37, 38, 39, 40, 41, 42, 43, 44] (by decide +kernel) (by decide +kernel)
set_option maxRecDepth 20000 in
theorem gX2_price_X2_has : GoodIn wsX2_price (wsV RX2 63 RX2 yX2_has wsX2_has) := goodIn_app (goodIn_of _ (by decide +kernel)) ggX2_price_X2_has
set_option maxRecDepth 20000 in
theorem ggX2_price_X2_isRate : GoodIn wsX2_price wsX2_isRate := goodIn_r _ [13, 8, 9, 5, 10] (by decide +kernel) (by decide +kernel)
set_option maxRecDepth 20000 in
theorem gX2_price_X2_isRate : GoodIn wsX2_price (va_wsS RX2 115 yX2_isRate wsX2_isRate) := goodIn_app (goodIn_of _ (by decide +kernel)) ggX2_price_X2_isRate
set_option maxRecDepth 20000 in
theorem ggX2_price_X0_priceAt : GoodIn wsX2_price wsX0_priceAt := goodIn_r _ [18, 19, 20, 21, 22, 23, 24, 25, 26, 17, 27, 28, 9, 5, 10, 29, 30, 31, 32, 33, 34, 35, 45, 46, 47, 48, 49, 50, 51, 52, 53, 54] (by decide +kernel) (by decide +kernel)
set_option maxRecDepth 20000 in
theorem gX2_price_X0_priceAt : GoodIn wsX2_price (wsV RX2 118 RX0 yX0_priceAt wsX0_priceAt) := goodIn_app (goodIn_of _ (by decide +kernel)) ggX2_price_X0_priceAt
theorem dX2_price_0 : decode cX2_price 0 = .ok (.aload_n 0, 1) := by decide +kernel
theorem dX2_price_1 : decode cX2_price 1 = .ok (.iload_n 1, 1) := by decide +kernel
theorem dX2_price_2 : decode cX2_price 2 = .ok (.invokevirtual 63, 3) := by decide +kernel
theorem dX2_price_5 : decode cX2_price 5 = .ok (.ifCond .eq 10, 3) := by decide +kernel
theorem dX2_price_8 : decode cX2_price 8 = .ok (.iload_n 2, 1) := by decide +kernel
theorem dX2_price_9 : decode cX2_price 9 = .ok (.invokestatic 115, 3) := by decide +kernel
theorem dX2_price_12 : decode cX2_price 12 = .ok (.ifCond .ne 5, 3) := by decide +kernel
theorem dX2_price_15 : decode cX2_price 15 = .ok (.iconst (-1), 1) := by decide +kernel
theorem dX2_price_16 : decode cX2_price 16 = .ok (.ireturn, 1) := by decide +kernel
theorem dX2_price_17 : decode cX2_price 17 = .ok (.aload_n 0, 1) := by decide +kernel
theorem dX2_price_18 : decode cX2_price 18 = .ok (.getfield 11, 3) := by decide +kernel
theorem dX2_price_21 : decode cX2_price 21 = .ok (.iload_n 1, 1) := by decide +kernel
theorem dX2_price_22 : decode cX2_price 22 = .ok (.aaload, 1) := by decide +kernel
theorem dX2_price_23 : decode cX2_price 23 = .ok (.iload_n 2, 1) := by decide +kernel
theorem dX2_price_24 : decode cX2_price 24 = .ok (.invokevirtual 118, 3) := by decide +kernel
theorem dX2_price_27 : decode cX2_price 27 = .ok (.ireturn, 1) := by decide +kernel
set_option maxRecDepth 20000 in
theorem ggX2_rateOf_X2_has : GoodIn wsX2_rateOf wsX2_has := goodIn_r _ [6, 7, 8, 9, 5, 10, 33, 34, 35, 36, 37, 38, 39, 40, 41] (by decide +kernel) (by decide +kernel)
set_option maxRecDepth 20000 in
theorem gX2_rateOf_X2_has : GoodIn wsX2_rateOf (wsV RX2 63 RX2 yX2_has wsX2_has) := goodIn_app (goodIn_of _ (by decide +kernel)) ggX2_rateOf_X2_has
set_option maxRecDepth 20000 in
theorem ggX2_rateOf_X0_priceAt : GoodIn wsX2_rateOf wsX0_priceAt := goodIn_r _ [15, 16, 17, 18, 19, 20, 21, 22, 23, 14, 24, 25, 9, 5, 10, 26, 27, 28, 29, 30, 31, 32, 42, 43, 44, 45, 46, 47, 48, 49, 50, 51] (by decide +kernel) (by decide +kernel)
set_option maxRecDepth 20000 in
theorem gX2_rateOf_X0_priceAt : GoodIn wsX2_rateOf (wsV RX2 118 RX0 yX0_priceAt wsX0_priceAt) := goodIn_app (goodIn_of _ (by decide +kernel)) ggX2_rateOf_X0_priceAt
theorem dX2_rateOf_0 : decode cX2_rateOf 0 = .ok (.aload_n 0, 1) := by decide +kernel
theorem dX2_rateOf_1 : decode cX2_rateOf 1 = .ok (.iload_n 1, 1) := by decide +kernel
theorem dX2_rateOf_2 : decode cX2_rateOf 2 = .ok (.invokevirtual 63, 3) := by decide +kernel
theorem dX2_rateOf_5 : decode cX2_rateOf 5 = .ok (.ifCond .ne 5, 3) := by decide +kernel
theorem dX2_rateOf_8 : decode cX2_rateOf 8 = .ok (.iconst (-1), 1) := by decide +kernel
theorem dX2_rateOf_9 : decode cX2_rateOf 9 = .ok (.ireturn, 1) := by decide +kernel
theorem dX2_rateOf_10 : decode cX2_rateOf 10 = .ok (.iconst (-1), 1) := by decide +kernel
theorem dX2_rateOf_11 : decode cX2_rateOf 11 = .ok (.istore_n 3, 1) := by decide +kernel
theorem dX2_rateOf_12 : decode cX2_rateOf 12 = .ok (.sipush 2048, 3) := by decide +kernel
theorem dX2_rateOf_15 : decode cX2_rateOf 15 = .ok (.istore 4, 2) := by decide +kernel
theorem dX2_rateOf_17 : decode cX2_rateOf 17 = .ok (.iload 4, 2) := by decide +kernel
theorem dX2_rateOf_19 : decode cX2_rateOf 19 = .ok (.ifCond .le 44, 3) := by decide +kernel
theorem dX2_rateOf_22 : decode cX2_rateOf 22 = .ok (.iload_n 3, 1) := by decide +kernel
theorem dX2_rateOf_23 : decode cX2_rateOf 23 = .ok (.iload 4, 2) := by decide +kernel
theorem dX2_rateOf_25 : decode cX2_rateOf 25 = .ok (.iadd, 1) := by decide +kernel
theorem dX2_rateOf_26 : decode cX2_rateOf 26 = .ok (.sipush 3000, 3) := by decide +kernel
theorem dX2_rateOf_29 : decode cX2_rateOf 29 = .ok (.if_icmp .gt 25, 3) := by decide +kernel
theorem dX2_rateOf_32 : decode cX2_rateOf 32 = .ok (.aload_n 0, 1) := by decide +kernel
theorem dX2_rateOf_33 : decode cX2_rateOf 33 = .ok (.getfield 11, 3) := by decide +kernel
theorem dX2_rateOf_36 : decode cX2_rateOf 36 = .ok (.iload_n 1, 1) := by decide +kernel
theorem dX2_rateOf_37 : decode cX2_rateOf 37 = .ok (.aaload, 1) := by decide +kernel
theorem dX2_rateOf_38 : decode cX2_rateOf 38 = .ok (.iload_n 3, 1) := by decide +kernel
theorem dX2_rateOf_39 : decode cX2_rateOf 39 = .ok (.iload 4, 2) := by decide +kernel
theorem dX2_rateOf_41 : decode cX2_rateOf 41 = .ok (.iadd, 1) := by decide +kernel
theorem dX2_rateOf_42 : decode cX2_rateOf 42 = .ok (.invokevirtual 118, 3) := by decide +kernel
theorem dX2_rateOf_45 : decode cX2_rateOf 45 = .ok (.iload_n 2, 1) := by decide +kernel
theorem dX2_rateOf_46 : decode cX2_rateOf 46 = .ok (.if_icmp .le 8, 3) := by decide +kernel
theorem dX2_rateOf_49 : decode cX2_rateOf 49 = .ok (.iload_n 3, 1) := by decide +kernel
theorem dX2_rateOf_50 : decode cX2_rateOf 50 = .ok (.iload 4, 2) := by decide +kernel
theorem dX2_rateOf_52 : decode cX2_rateOf 52 = .ok (.iadd, 1) := by decide +kernel
theorem dX2_rateOf_53 : decode cX2_rateOf 53 = .ok (.istore_n 3, 1) := by decide +kernel
theorem dX2_rateOf_54 : decode cX2_rateOf 54 = .ok (.iload 4, 2) := by decide +kernel
theorem dX2_rateOf_56 : decode cX2_rateOf 56 = .ok (.iconst 2, 1) := by decide +kernel
theorem dX2_rateOf_57 : decode cX2_rateOf 57 = .ok (.idiv, 1) := by decide +kernel
theorem dX2_rateOf_58 : decode cX2_rateOf 58 = .ok (.istore 4, 2) := by decide +kernel
theorem dX2_rateOf_60 : decode cX2_rateOf 60 = .ok (.goto (-43), 3) := by decide +kernel
theorem dX2_rateOf_63 : decode cX2_rateOf 63 = .ok (.iload_n 3, 1) := by decide +kernel
theorem dX2_rateOf_64 : decode cX2_rateOf 64 = .ok (.sipush 3000, 3) := by decide +kernel
theorem dX2_rateOf_67 : decode cX2_rateOf 67 = .ok (.if_icmp .ne 7, 3) := by decide +kernel
theorem dX2_rateOf_70 : decode cX2_rateOf 70 = .ok (.iconst (-1), 1) := by decide +kernel
theorem dX2_rateOf_71 : decode cX2_rateOf 71 = .ok (.goto 6, 3) := by decide +kernel
theorem dX2_rateOf_74 : decode cX2_rateOf 74 = .ok (.iload_n 3, 1) := by decide +kernel
theorem dX2_rateOf_75 : decode cX2_rateOf 75 = .ok (.iconst 1, 1) := by decide +kernel
theorem dX2_rateOf_76 : decode cX2_rateOf 76 = .ok (.iadd, 1) := by decide +kernel
theorem dX2_rateOf_77 : decode cX2_rateOf 77 = .ok (.ireturn, 1) := by decide +kernel
set_option maxRecDepth 20000 in
theorem ggX2_contract_X2_isRate : GoodIn wsX2_contract wsX2_isRate := goodIn_r _ [9, 10, 11, 8, 12] (by decide +kernel) (by decide +kernel)
set_option maxRecDepth 20000 in
theorem gX2_contract_X2_isRate : GoodIn wsX2_contract (va_wsS RX2 115 yX2_isRate wsX2_isRate) := goodIn_app (goodIn_of _ (by decide +kernel)) ggX2_contract_X2_isRate
set_option maxRecDepth 20000 in
theorem ggX2_contract_X0_factorBy : GoodIn wsX2_contract wsX0_factorBy := goodIn_r _ [17, 18, 19, 20, 21, 16, 22, 23, 11, 8, 12, 24, 25, 26, 27, 28, 29, 30, 40, 41, 42, 43, 44, 45, 46, 47, 48, 49] (by decide +kernel) (by decide +kernel)
set_option maxRecDepth 20000 in
theorem gX2_contract_X0_factorBy : GoodIn wsX2_contract (wsV RX2 59 RX0 yX0_factorBy wsX0_factorBy) := goodIn_app (goodIn_of _ (by decide +kernel)) ggX2_contract_X0_factorBy
theorem dX2_contract_0 : decode cX2_contract 0 = .ok (.iload_n 1, 1) := by decide +kernel
theorem dX2_contract_1 : decode cX2_contract 1 = .ok (.invokestatic 115, 3) := by decide +kernel
theorem dX2_contract_4 : decode cX2_contract 4 = .ok (.ifCond .eq 19, 3) := by decide +kernel
theorem dX2_contract_7 : decode cX2_contract 7 = .ok (.iload_n 2, 1) := by decide +kernel
theorem dX2_contract_8 : decode cX2_contract 8 = .ok (.iconst 1, 1) := by decide +kernel
theorem dX2_contract_9 : decode cX2_contract 9 = .ok (.if_icmp .lt 14, 3) := by decide +kernel
theorem dX2_contract_12 : decode cX2_contract 12 = .ok (.iload_n 3, 1) := by decide +kernel
theorem dX2_contract_13 : decode cX2_contract 13 = .ok (.bipush 40, 2) := by decide +kernel
theorem dX2_contract_15 : decode cX2_contract 15 = .ok (.if_icmp .gt 8, 3) := by decide +kernel
theorem dX2_contract_18 : decode cX2_contract 18 = .ok (.iload_n 2, 1) := by decide +kernel
theorem dX2_contract_19 : decode cX2_contract 19 = .ok (.iload_n 3, 1) := by decide +kernel
theorem dX2_contract_20 : decode cX2_contract 20 = .ok (.if_icmp .le 5, 3) := by decide +kernel
theorem dX2_contract_23 : decode cX2_contract 23 = .ok (.iconst 0, 1) := by decide +kernel
theorem dX2_contract_24 : decode cX2_contract 24 = .ok (.ireturn, 1) := by decide +kernel
theorem dX2_contract_25 : decode cX2_contract 25 = .ok (.iload_n 1, 1) := by decide +kernel
theorem dX2_contract_26 : decode cX2_contract 26 = .ok (.aload_n 0, 1) := by decide +kernel
theorem dX2_contract_27 : decode cX2_contract 27 = .ok (.getfield 15, 3) := by decide +kernel
theorem dX2_contract_30 : decode cX2_contract 30 = .ok (.if_icmp .ne 21, 3) := by decide +kernel
theorem dX2_contract_33 : decode cX2_contract 33 = .ok (.iload_n 2, 1) := by decide +kernel
theorem dX2_contract_34 : decode cX2_contract 34 = .ok (.aload_n 0, 1) := by decide +kernel
theorem dX2_contract_35 : decode cX2_contract 35 = .ok (.getfield 19, 3) := by decide +kernel
theorem dX2_contract_38 : decode cX2_contract 38 = .ok (.if_icmp .ne 13, 3) := by decide +kernel
theorem dX2_contract_41 : decode cX2_contract 41 = .ok (.iload_n 3, 1) := by decide +kernel
theorem dX2_contract_42 : decode cX2_contract 42 = .ok (.aload_n 0, 1) := by decide +kernel
theorem dX2_contract_43 : decode cX2_contract 43 = .ok (.getfield 22, 3) := by decide +kernel
theorem dX2_contract_46 : decode cX2_contract 46 = .ok (.if_icmp .ne 5, 3) := by decide +kernel
theorem dX2_contract_49 : decode cX2_contract 49 = .ok (.iconst 0, 1) := by decide +kernel
theorem dX2_contract_50 : decode cX2_contract 50 = .ok (.ireturn, 1) := by decide +kernel
theorem dX2_contract_51 : decode cX2_contract 51 = .ok (.aload_n 0, 1) := by decide +kernel
theorem dX2_contract_52 : decode cX2_contract 52 = .ok (.iload_n 1, 1) := by decide +kernel
theorem dX2_contract_53 : decode cX2_contract 53 = .ok (.putfield 15, 3) := by decide +kernel
theorem dX2_contract_56 : decode cX2_contract 56 = .ok (.aload_n 0, 1) := by decide +kernel
theorem dX2_contract_57 : decode cX2_contract 57 = .ok (.iload_n 2, 1) := by decide +kernel
theorem dX2_contract_58 : decode cX2_contract 58 = .ok (.putfield 19, 3) := by decide +kernel
theorem dX2_contract_61 : decode cX2_contract 61 = .ok (.aload_n 0, 1) := by decide +kernel
theorem dX2_contract_62 : decode cX2_contract 62 = .ok (.iload_n 3, 1) := by decide +kernel
theorem dX2_contract_63 : decode cX2_contract 63 = .ok (.putfield 22, 3) := by decide +kernel
theorem dX2_contract_66 : decode cX2_contract 66 = .ok (.iconst 0, 1) := by decide +kernel
theorem dX2_contract_67 : decode cX2_contract 67 = .ok (.istore 4, 2) := by decide +kernel
theorem dX2_contract_69 : decode cX2_contract 69 = .ok (.iload 4, 2) := by decide +kernel
theorem dX2_contract_71 : decode cX2_contract 71 = .ok (.aload_n 0, 1) := by decide +kernel
theorem dX2_contract_72 : decode cX2_contract 72 = .ok (.getfield 44, 3) := by decide +kernel
theorem dX2_contract_75 : decode cX2_contract 75 = .ok (.if_icmp .ge 20, 3) := by decide +kernel
theorem dX2_contract_78 : decode cX2_contract 78 = .ok (.aload_n 0, 1) := by decide +kernel
theorem dX2_contract_79 : decode cX2_contract 79 = .ok (.getfield 11, 3) := by decide +kernel
theorem dX2_contract_82 : decode cX2_contract 82 = .ok (.iload 4, 2) := by decide +kernel
theorem dX2_contract_84 : decode cX2_contract 84 = .ok (.aaload, 1) := by decide +kernel
theorem dX2_contract_85 : decode cX2_contract 85 = .ok (.iload_n 1, 1) := by decide +kernel
theorem dX2_contract_86 : decode cX2_contract 86 = .ok (.invokevirtual 59, 3) := by decide +kernel
theorem dX2_contract_89 : decode cX2_contract 89 = .ok (.iinc 4 1, 3) := by decide +kernel
theorem dX2_contract_92 : decode cX2_contract 92 = .ok (.goto (-23), 3) := by decide +kernel
theorem dX2_contract_95 : decode cX2_contract 95 = .ok (.iconst 1, 1) := by decide +kernel
theorem dX2_contract_96 : decode cX2_contract 96 = .ok (.ireturn, 1) := by decide +kernel
set_option maxRecDepth 20000 in
theorem ggX2_count_X2_eligibleBits : GoodIn wsX2_count wsX2_eligibleBits := goodIn_r _ [15, 1, 16, 17, 18, 14, 19, 20, 21, 22, 3, 4, 23, 24, 25, 26, 32, 33, 34, 35, 36, 37, 38, 39, 40, 53, 54, 55, 56, 57, 58, 59, 60, 61, 62] (by decide +kernel) (by decide +kernel)
set_option maxRecDepth 20000 in
theorem gX2_count_X2_eligibleBits : GoodIn wsX2_count (wsV RX2 122 RX2 yX2_eligibleBits wsX2_eligibleBits) := goodIn_app (goodIn_of _ (by decide +kernel)) ggX2_count_X2_eligibleBits
set_option maxRecDepth 20000 in
theorem ggX2_count_X2_eligibleStock : GoodIn wsX2_count wsX2_eligibleStock := goodIn_r _ [30, 1, 20, 31, 16, 17, 18, 14, 19, 21, 22, 3, 4, 23, 24, 25, 26, 32, 33, 34, 35, 36, 37, 38, 39, 40, 53, 54, 55, 56, 57, 58, 59, 60, 61, 62] (by decide +kernel) (by decide +kernel)
set_option maxRecDepth 20000 in
theorem gX2_count_X2_eligibleStock : GoodIn wsX2_count (wsV RX2 126 RX2 yX2_eligibleStock wsX2_eligibleStock) := goodIn_app (goodIn_of _ (by decide +kernel)) ggX2_count_X2_eligibleStock
theorem dX2_count_0 : decode cX2_count 0 = .ok (.iload_n 1, 1) := by decide +kernel
theorem dX2_count_1 : decode cX2_count 1 = .ok (.tableswitch 129 0 10 #[59, 64, 69, 74, 79, 84, 89, 97, 105, 113, 121], 59) := by decide +kernel
theorem dX2_count_60 : decode cX2_count 60 = .ok (.aload_n 0, 1) := by decide +kernel
theorem dX2_count_61 : decode cX2_count 61 = .ok (.getfield 44, 3) := by decide +kernel
theorem dX2_count_64 : decode cX2_count 64 = .ok (.ireturn, 1) := by decide +kernel
theorem dX2_count_65 : decode cX2_count 65 = .ok (.aload_n 0, 1) := by decide +kernel
theorem dX2_count_66 : decode cX2_count 66 = .ok (.invokevirtual 122, 3) := by decide +kernel
theorem dX2_count_69 : decode cX2_count 69 = .ok (.ireturn, 1) := by decide +kernel
theorem dX2_count_70 : decode cX2_count 70 = .ok (.aload_n 0, 1) := by decide +kernel
theorem dX2_count_71 : decode cX2_count 71 = .ok (.getfield 15, 3) := by decide +kernel
theorem dX2_count_74 : decode cX2_count 74 = .ok (.ireturn, 1) := by decide +kernel
theorem dX2_count_75 : decode cX2_count 75 = .ok (.aload_n 0, 1) := by decide +kernel
theorem dX2_count_76 : decode cX2_count 76 = .ok (.getfield 19, 3) := by decide +kernel
theorem dX2_count_79 : decode cX2_count 79 = .ok (.ireturn, 1) := by decide +kernel
theorem dX2_count_80 : decode cX2_count 80 = .ok (.aload_n 0, 1) := by decide +kernel
theorem dX2_count_81 : decode cX2_count 81 = .ok (.getfield 22, 3) := by decide +kernel
theorem dX2_count_84 : decode cX2_count 84 = .ok (.ireturn, 1) := by decide +kernel
theorem dX2_count_85 : decode cX2_count 85 = .ok (.aload_n 0, 1) := by decide +kernel
theorem dX2_count_86 : decode cX2_count 86 = .ok (.invokevirtual 126, 3) := by decide +kernel
theorem dX2_count_89 : decode cX2_count 89 = .ok (.ireturn, 1) := by decide +kernel
theorem dX2_count_90 : decode cX2_count 90 = .ok (.aload_n 0, 1) := by decide +kernel
theorem dX2_count_91 : decode cX2_count 91 = .ok (.getfield 28, 3) := by decide +kernel
theorem dX2_count_94 : decode cX2_count 94 = .ok (.getfield 129, 3) := by decide +kernel
theorem dX2_count_97 : decode cX2_count 97 = .ok (.ireturn, 1) := by decide +kernel
theorem dX2_count_98 : decode cX2_count 98 = .ok (.aload_n 0, 1) := by decide +kernel
theorem dX2_count_99 : decode cX2_count 99 = .ok (.getfield 28, 3) := by decide +kernel
theorem dX2_count_102 : decode cX2_count 102 = .ok (.getfield 132, 3) := by decide +kernel
theorem dX2_count_105 : decode cX2_count 105 = .ok (.ireturn, 1) := by decide +kernel
theorem dX2_count_106 : decode cX2_count 106 = .ok (.aload_n 0, 1) := by decide +kernel
theorem dX2_count_107 : decode cX2_count 107 = .ok (.getfield 28, 3) := by decide +kernel
theorem dX2_count_110 : decode cX2_count 110 = .ok (.getfield 135, 3) := by decide +kernel
theorem dX2_count_113 : decode cX2_count 113 = .ok (.ireturn, 1) := by decide +kernel
theorem dX2_count_114 : decode cX2_count 114 = .ok (.aload_n 0, 1) := by decide +kernel
theorem dX2_count_115 : decode cX2_count 115 = .ok (.getfield 28, 3) := by decide +kernel
theorem dX2_count_118 : decode cX2_count 118 = .ok (.getfield 138, 3) := by decide +kernel
theorem dX2_count_121 : decode cX2_count 121 = .ok (.ireturn, 1) := by decide +kernel
theorem dX2_count_122 : decode cX2_count 122 = .ok (.aload_n 0, 1) := by decide +kernel
theorem dX2_count_123 : decode cX2_count 123 = .ok (.getfield 28, 3) := by decide +kernel
theorem dX2_count_126 : decode cX2_count 126 = .ok (.getfield 141, 3) := by decide +kernel
theorem dX2_count_129 : decode cX2_count 129 = .ok (.ireturn, 1) := by decide +kernel
theorem dX2_count_130 : decode cX2_count 130 = .ok (.iconst (-1), 1) := by decide +kernel
theorem dX2_count_131 : decode cX2_count 131 = .ok (.ireturn, 1) := by decide +kernel
set_option maxRecDepth 20000 in
theorem ggX2_cheapest_X2_isRate : GoodIn wsX2_cheapest wsX2_isRate := goodIn_r _ [4, 5, 6, 3, 7] (by decide +kernel) (by decide +kernel)
set_option maxRecDepth 20000 in
theorem gX2_cheapest_X2_isRate : GoodIn wsX2_cheapest (va_wsS RX2 115 yX2_isRate wsX2_isRate) := goodIn_app (goodIn_of _ (by decide +kernel)) ggX2_cheapest_X2_isRate
set_option maxRecDepth 20000 in
theorem ggX2_cheapest_X2_eligibleBits : GoodIn wsX2_cheapest wsX2_eligibleBits := goodIn_r _ [11, 12, 13, 14, 15, 3, 16, 17, 18, 19, 20, 21, 22, 5, 6, 7, 61, 62, 63, 64, 65, 66, 67, 68, 69, 70, 71, 72, 73, 74, 75, 76, 77, 78, 79] (by decide +kernel) (by decide +kernel)
set_option maxRecDepth 20000 in
theorem gX2_cheapest_X2_eligibleBits : GoodIn wsX2_cheapest (wsV RX2 122 RX2 yX2_eligibleBits wsX2_eligibleBits) := goodIn_app (goodIn_of _ (by decide +kernel)) ggX2_cheapest_X2_eligibleBits
set_option maxRecDepth 20000 in
theorem ggX2_cheapest_X2_cheapestAt : GoodIn wsX2_cheapest wsX2_cheapestAt := goodIn_r _ [26, 12, 27, 28, 29, 3, 30, 31, 17, 32, 33, 34, 35, 36, 37, 38, 39, 40, 41, 42, 43, 44, 45, 46, 47, 48, 49, 6, 7, 50, 51, 52, 53, 54, 55, 56, 57, 58, 59, 60, 22, 61, 62, 63, 64, 65, 66, 67, 68, 69, 70, 71, 72, 73, 74, 75, 76, 77, 78, 79] (by decide +kernel) (by decide +kernel)
set_option maxRecDepth 20000 in
theorem gX2_cheapest_X2_cheapestAt : GoodIn wsX2_cheapest (wsV RX2 144 RX2 yX2_cheapestAt wsX2_cheapestAt) := goodIn_app (goodIn_of _ (by decide +kernel)) ggX2_cheapest_X2_cheapestAt
theorem dX2_cheapest_0 : decode cX2_cheapest 0 = .ok (.iload_n 1, 1) := by decide +kernel
theorem dX2_cheapest_1 : decode cX2_cheapest 1 = .ok (.invokestatic 115, 3) := by decide +kernel
theorem dX2_cheapest_4 : decode cX2_cheapest 4 = .ok (.ifCond .eq 15, 3) := by decide +kernel
theorem dX2_cheapest_7 : decode cX2_cheapest 7 = .ok (.aload_n 0, 1) := by decide +kernel
theorem dX2_cheapest_8 : decode cX2_cheapest 8 = .ok (.iload_n 1, 1) := by decide +kernel
theorem dX2_cheapest_9 : decode cX2_cheapest 9 = .ok (.aload_n 0, 1) := by decide +kernel
theorem dX2_cheapest_10 : decode cX2_cheapest 10 = .ok (.invokevirtual 122, 3) := by decide +kernel
theorem dX2_cheapest_13 : decode cX2_cheapest 13 = .ok (.invokevirtual 144, 3) := by decide +kernel
theorem dX2_cheapest_16 : decode cX2_cheapest 16 = .ok (.goto 4, 3) := by decide +kernel
theorem dX2_cheapest_19 : decode cX2_cheapest 19 = .ok (.iconst (-1), 1) := by decide +kernel
theorem dX2_cheapest_20 : decode cX2_cheapest 20 = .ok (.ireturn, 1) := by decide +kernel
set_option maxRecDepth 20000 in
theorem ggX2_ranked_X2_isRate : GoodIn wsX2_ranked wsX2_isRate := goodIn_r _ [5, 6, 7, 4, 8] (by decide +kernel) (by decide +kernel)
set_option maxRecDepth 20000 in
theorem gX2_ranked_X2_isRate : GoodIn wsX2_ranked (va_wsS RX2 115 yX2_isRate wsX2_isRate) := goodIn_app (goodIn_of _ (by decide +kernel)) ggX2_ranked_X2_isRate
set_option maxRecDepth 20000 in
theorem ggX2_ranked_X2_eligibleBits : GoodIn wsX2_ranked wsX2_eligibleBits := goodIn_r _ [12, 1, 13, 14, 15, 4, 16, 17, 18, 19, 20, 21, 22, 6, 7, 8, 61, 62, 63, 64, 65, 66, 67, 68, 69, 70, 71, 72, 73, 74, 75, 76, 77, 78, 79] (by decide +kernel) (by decide +kernel)
set_option maxRecDepth 20000 in
theorem gX2_ranked_X2_eligibleBits : GoodIn wsX2_ranked (wsV RX2 122 RX2 yX2_eligibleBits wsX2_eligibleBits) := goodIn_app (goodIn_of _ (by decide +kernel)) ggX2_ranked_X2_eligibleBits
set_option maxRecDepth 20000 in
theorem ggX2_ranked_X2_layPrices : GoodIn wsX2_ranked wsX2_layPrices := goodIn_r _ [26, 1, 27, 17, 28, 29, 4, 30, 31, 32, 33, 34, 35, 36, 37, 38, 39, 40, 41, 42, 43, 44, 45, 7, 8, 46, 47, 48, 49, 50, 51, 52, 61, 62, 63, 64, 65, 66, 67, 68, 69, 70, 71, 72, 73, 74, 75, 76, 77, 78, 79] (by decide +kernel) (by decide +kernel)
set_option maxRecDepth 20000 in
theorem gX2_ranked_X2_layPrices : GoodIn wsX2_ranked (wsV RX2 148 RX2 yX2_layPrices wsX2_layPrices) := goodIn_app (goodIn_of _ (by decide +kernel)) ggX2_ranked_X2_layPrices
set_option maxRecDepth 20000 in
theorem ggX2_ranked_X2_isIn : GoodIn wsX2_ranked wsX2_isIn := goodIn_r _ [30] (by decide +kernel) (by decide +kernel)
set_option maxRecDepth 20000 in
theorem gX2_ranked_X2_isIn : GoodIn wsX2_ranked (va_wsS RX2 152 yX2_isIn wsX2_isIn) := goodIn_app (goodIn_of _ (by decide +kernel)) ggX2_ranked_X2_isIn
set_option maxRecDepth 20000 in
theorem ggX2_ranked_X2_howManyAhead : GoodIn wsX2_ranked wsX2_howManyAhead := goodIn_r _ [56, 1, 28, 29, 4, 30, 57, 58, 59, 60, 27, 17, 22, 61, 62, 63, 64, 65, 66, 67, 68, 69, 70, 71, 72, 73, 74, 75, 76, 77, 78, 79] (by decide +kernel) (by decide +kernel)
set_option maxRecDepth 20000 in
theorem gX2_ranked_X2_howManyAhead : GoodIn wsX2_ranked (wsV RX2 156 RX2 yX2_howManyAhead wsX2_howManyAhead) := goodIn_app (goodIn_of _ (by decide +kernel)) ggX2_ranked_X2_howManyAhead
theorem dX2_ranked_0 : decode cX2_ranked 0 = .ok (.iload_n 1, 1) := by decide +kernel
theorem dX2_ranked_1 : decode cX2_ranked 1 = .ok (.invokestatic 115, 3) := by decide +kernel
theorem dX2_ranked_4 : decode cX2_ranked 4 = .ok (.ifCond .ne 5, 3) := by decide +kernel
theorem dX2_ranked_7 : decode cX2_ranked 7 = .ok (.iconst (-1), 1) := by decide +kernel
theorem dX2_ranked_8 : decode cX2_ranked 8 = .ok (.ireturn, 1) := by decide +kernel
theorem dX2_ranked_9 : decode cX2_ranked 9 = .ok (.aload_n 0, 1) := by decide +kernel
theorem dX2_ranked_10 : decode cX2_ranked 10 = .ok (.invokevirtual 122, 3) := by decide +kernel
theorem dX2_ranked_13 : decode cX2_ranked 13 = .ok (.istore_n 3, 1) := by decide +kernel
theorem dX2_ranked_14 : decode cX2_ranked 14 = .ok (.aload_n 0, 1) := by decide +kernel
theorem dX2_ranked_15 : decode cX2_ranked 15 = .ok (.iload_n 1, 1) := by decide +kernel
theorem dX2_ranked_16 : decode cX2_ranked 16 = .ok (.iload_n 3, 1) := by decide +kernel
theorem dX2_ranked_17 : decode cX2_ranked 17 = .ok (.invokevirtual 148, 3) := by decide +kernel
theorem dX2_ranked_20 : decode cX2_ranked 20 = .ok (.iconst 0, 1) := by decide +kernel
theorem dX2_ranked_21 : decode cX2_ranked 21 = .ok (.istore 4, 2) := by decide +kernel
theorem dX2_ranked_23 : decode cX2_ranked 23 = .ok (.iload 4, 2) := by decide +kernel
theorem dX2_ranked_25 : decode cX2_ranked 25 = .ok (.aload_n 0, 1) := by decide +kernel
theorem dX2_ranked_26 : decode cX2_ranked 26 = .ok (.getfield 44, 3) := by decide +kernel
theorem dX2_ranked_29 : decode cX2_ranked 29 = .ok (.if_icmp .ge 32, 3) := by decide +kernel
theorem dX2_ranked_32 : decode cX2_ranked 32 = .ok (.iload_n 3, 1) := by decide +kernel
theorem dX2_ranked_33 : decode cX2_ranked 33 = .ok (.iload 4, 2) := by decide +kernel
theorem dX2_ranked_35 : decode cX2_ranked 35 = .ok (.invokestatic 152, 3) := by decide +kernel
theorem dX2_ranked_38 : decode cX2_ranked 38 = .ok (.ifCond .eq 17, 3) := by decide +kernel
theorem dX2_ranked_41 : decode cX2_ranked 41 = .ok (.aload_n 0, 1) := by decide +kernel
theorem dX2_ranked_42 : decode cX2_ranked 42 = .ok (.iload 4, 2) := by decide +kernel
theorem dX2_ranked_44 : decode cX2_ranked 44 = .ok (.iload_n 3, 1) := by decide +kernel
theorem dX2_ranked_45 : decode cX2_ranked 45 = .ok (.invokevirtual 156, 3) := by decide +kernel
theorem dX2_ranked_48 : decode cX2_ranked 48 = .ok (.iload_n 2, 1) := by decide +kernel
theorem dX2_ranked_49 : decode cX2_ranked 49 = .ok (.if_icmp .ne 6, 3) := by decide +kernel
theorem dX2_ranked_52 : decode cX2_ranked 52 = .ok (.iload 4, 2) := by decide +kernel
theorem dX2_ranked_54 : decode cX2_ranked 54 = .ok (.ireturn, 1) := by decide +kernel
theorem dX2_ranked_55 : decode cX2_ranked 55 = .ok (.iinc 4 1, 3) := by decide +kernel
theorem dX2_ranked_58 : decode cX2_ranked 58 = .ok (.goto (-35), 3) := by decide +kernel
theorem dX2_ranked_61 : decode cX2_ranked 61 = .ok (.iconst (-1), 1) := by decide +kernel
theorem dX2_ranked_62 : decode cX2_ranked 62 = .ok (.ireturn, 1) := by decide +kernel
set_option maxRecDepth 20000 in
theorem ggX2_mark_X2_isRate : GoodIn wsX2_mark wsX2_isRate := goodIn_r _ [5, 6, 7, 4, 8] (by decide +kernel) (by decide +kernel)
set_option maxRecDepth 20000 in
theorem gX2_mark_X2_isRate : GoodIn wsX2_mark (va_wsS RX2 115 yX2_isRate wsX2_isRate) := goodIn_app (goodIn_of _ (by decide +kernel)) ggX2_mark_X2_isRate
set_option maxRecDepth 20000 in
theorem ggX2_mark_X2_eligibleBits : GoodIn wsX2_mark wsX2_eligibleBits := goodIn_r _ [12, 13, 14, 15, 16, 4, 17, 18, 19, 20, 21, 22, 23, 6, 7, 8, 67, 68, 69, 70, 71, 72, 73, 74, 75, 76, 77, 78, 79, 80, 81, 82, 83, 84, 85] (by decide +kernel) (by decide +kernel)
set_option maxRecDepth 20000 in
theorem gX2_mark_X2_eligibleBits : GoodIn wsX2_mark (wsV RX2 122 RX2 yX2_eligibleBits wsX2_eligibleBits) := goodIn_app (goodIn_of _ (by decide +kernel)) ggX2_mark_X2_eligibleBits
set_option maxRecDepth 20000 in
theorem ggX2_mark_X2_markAt : GoodIn wsX2_mark wsX2_markAt := goodIn_r _ [27, 18, 23, 1, 28, 29, 30, 31, 32, 4, 33, 13, 34, 35, 36, 37, 38, 39, 40, 41, 42, 43, 44, 45, 46, 47, 48, 49, 50, 51, 52, 53, 54, 55, 7, 8, 56, 57, 58, 59, 60, 61, 62, 63, 64, 65, 66, 67, 68, 69, 70, 71, 72, 73, 74, 75, 76, 77, 78, 79, 80, 81, 82, 83, 84, 85] (by decide +kernel) (by decide +kernel)
set_option maxRecDepth 20000 in
theorem gX2_mark_X2_markAt : GoodIn wsX2_mark (wsV RX2 159 RX2 yX2_markAt wsX2_markAt) := goodIn_app (goodIn_of _ (by decide +kernel)) ggX2_mark_X2_markAt
theorem dX2_mark_0 : decode cX2_mark 0 = .ok (.iload_n 1, 1) := by decide +kernel
theorem dX2_mark_1 : decode cX2_mark 1 = .ok (.invokestatic 115, 3) := by decide +kernel
theorem dX2_mark_4 : decode cX2_mark 4 = .ok (.ifCond .eq 15, 3) := by decide +kernel
theorem dX2_mark_7 : decode cX2_mark 7 = .ok (.aload_n 0, 1) := by decide +kernel
theorem dX2_mark_8 : decode cX2_mark 8 = .ok (.iload_n 1, 1) := by decide +kernel
theorem dX2_mark_9 : decode cX2_mark 9 = .ok (.aload_n 0, 1) := by decide +kernel
theorem dX2_mark_10 : decode cX2_mark 10 = .ok (.invokevirtual 122, 3) := by decide +kernel
theorem dX2_mark_13 : decode cX2_mark 13 = .ok (.invokevirtual 159, 3) := by decide +kernel
theorem dX2_mark_16 : decode cX2_mark 16 = .ok (.goto 6, 3) := by decide +kernel
theorem dX2_mark_19 : decode cX2_mark 19 = .ok (.ldc2_w 163, 3) := by decide +kernel
theorem dX2_mark_22 : decode cX2_mark 22 = .ok (.lreturn, 1) := by decide +kernel
set_option maxRecDepth 20000 in
theorem ggX2_gap_X2_has : GoodIn wsX2_gap wsX2_has := goodIn_r _ [8, 9, 10, 11, 7, 12, 78, 79, 80, 81, 82, 83, 84, 85, 86] (by decide +kernel) (by decide +kernel)
set_option maxRecDepth 20000 in
theorem gX2_gap_X2_has : GoodIn wsX2_gap (wsV RX2 63 RX2 yX2_has wsX2_has) := goodIn_app (goodIn_of _ (by decide +kernel)) ggX2_gap_X2_has
set_option maxRecDepth 20000 in
theorem ggX2_gap_X2_isEligible : GoodIn wsX2_gap wsX2_isEligible := goodIn_r _ [16, 3, 17, 18, 19, 20, 21, 10, 11, 7, 12, 78, 79, 80, 81, 82, 83, 84, 85, 86, 87, 88, 89, 90, 91, 92, 93, 94, 95, 96] (by decide +kernel) (by decide +kernel)
set_option maxRecDepth 20000 in
theorem gX2_gap_X2_isEligible : GoodIn wsX2_gap (wsV RX2 107 RX2 yX2_isEligible wsX2_isEligible) := goodIn_app (goodIn_of _ (by decide +kernel)) ggX2_gap_X2_isEligible
set_option maxRecDepth 20000 in
theorem ggX2_gap_X2_isRate : GoodIn wsX2_gap wsX2_isRate := goodIn_r _ [24, 10, 11, 7, 12] (by decide +kernel) (by decide +kernel)
set_option maxRecDepth 20000 in
theorem gX2_gap_X2_isRate : GoodIn wsX2_gap (va_wsS RX2 115 yX2_isRate wsX2_isRate) := goodIn_app (goodIn_of _ (by decide +kernel)) ggX2_gap_X2_isRate
set_option maxRecDepth 20000 in
theorem ggX2_gap_X2_eligibleBits : GoodIn wsX2_gap wsX2_eligibleBits := goodIn_r _ [28, 9, 13, 14, 15, 7, 16, 3, 17, 18, 19, 20, 21, 10, 11, 12, 78, 79, 80, 81, 82, 83, 84, 85, 86, 87, 88, 89, 90, 91, 92, 93, 94, 95, 96] (by decide +kernel) (by decide +kernel)
set_option maxRecDepth 20000 in
theorem gX2_gap_X2_eligibleBits : GoodIn wsX2_gap (wsV RX2 122 RX2 yX2_eligibleBits wsX2_eligibleBits) := goodIn_app (goodIn_of _ (by decide +kernel)) ggX2_gap_X2_eligibleBits
set_option maxRecDepth 20000 in
theorem ggX2_gap_X2_markAt : GoodIn wsX2_gap wsX2_markAt := goodIn_r _ [32, 3, 21, 33, 34, 35, 36, 37, 38, 7, 39, 9, 40, 41, 42, 43, 44, 45, 46, 47, 48, 49, 50, 51, 52, 53, 54, 55, 56, 57, 58, 59, 60, 61, 11, 12, 62, 63, 64, 65, 66, 67, 68, 69, 70, 71, 72, 78, 79, 80, 81, 82, 83, 84, 85, 86, 87, 88, 89, 90, 91, 92, 93, 94, 95, 96] (by decide +kernel) (by decide +kernel)
set_option maxRecDepth 20000 in
theorem gX2_gap_X2_markAt : GoodIn wsX2_gap (wsV RX2 159 RX2 yX2_markAt wsX2_markAt) := goodIn_app (goodIn_of _ (by decide +kernel)) ggX2_gap_X2_markAt
set_option maxRecDepth 20000 in
theorem ggX2_gap_X0_priceAt : GoodIn wsX2_gap wsX0_priceAt := goodIn_r _ [51, 52, 53, 54, 55, 56, 57, 58, 59, 50, 60, 61, 11, 7, 12, 62, 63, 64, 65, 66, 67, 68, 87, 88, 89, 90, 91, 92, 93, 94, 95, 96] (by decide +kernel) (by decide +kernel)
set_option maxRecDepth 20000 in
theorem gX2_gap_X0_priceAt : GoodIn wsX2_gap (wsV RX2 118 RX0 yX0_priceAt wsX0_priceAt) := goodIn_app (goodIn_of _ (by decide +kernel)) ggX2_gap_X0_priceAt
set_option maxRecDepth 20000 in
theorem ggX2_gap_X0_invoiceBy : GoodIn wsX2_gap wsX0_invoiceBy := goodIn_r _ [76, 77, 68, 87, 88, 89, 90, 91, 92, 93, 94, 95, 96] (by decide +kernel) (by decide +kernel)
set_option maxRecDepth 20000 in
theorem gX2_gap_X0_invoiceBy : GoodIn wsX2_gap (wsV RX2 167 RX0 yX0_invoiceBy wsX0_invoiceBy) := goodIn_app (goodIn_of _ (by decide +kernel)) ggX2_gap_X0_invoiceBy
theorem dX2_gap_0 : decode cX2_gap 0 = .ok (.aload_n 0, 1) := by decide +kernel
theorem dX2_gap_1 : decode cX2_gap 1 = .ok (.iload_n 1, 1) := by decide +kernel
theorem dX2_gap_2 : decode cX2_gap 2 = .ok (.invokevirtual 63, 3) := by decide +kernel
theorem dX2_gap_5 : decode cX2_gap 5 = .ok (.ifCond .eq 18, 3) := by decide +kernel
theorem dX2_gap_8 : decode cX2_gap 8 = .ok (.aload_n 0, 1) := by decide +kernel
theorem dX2_gap_9 : decode cX2_gap 9 = .ok (.iload_n 1, 1) := by decide +kernel
theorem dX2_gap_10 : decode cX2_gap 10 = .ok (.invokevirtual 107, 3) := by decide +kernel
theorem dX2_gap_13 : decode cX2_gap 13 = .ok (.ifCond .eq 10, 3) := by decide +kernel
theorem dX2_gap_16 : decode cX2_gap 16 = .ok (.iload_n 2, 1) := by decide +kernel
theorem dX2_gap_17 : decode cX2_gap 17 = .ok (.invokestatic 115, 3) := by decide +kernel
theorem dX2_gap_20 : decode cX2_gap 20 = .ok (.ifCond .ne 13, 3) := by decide +kernel
theorem dX2_gap_23 : decode cX2_gap 23 = .ok (.new 76, 3) := by decide +kernel
theorem dX2_gap_26 : decode cX2_gap 26 = .ok (.dup, 1) := by decide +kernel
theorem dX2_gap_27 : decode cX2_gap 27 = .ok (.ldc 165, 2) := by decide +kernel
theorem dX2_gap_29 : decode cX2_gap 29 = .ok (.invokespecial 80, 3) := by decide +kernel
theorem dX2_gap_32 : decode cX2_gap 32 = .ok (.athrow, 1) := by decide +kernel
theorem dX2_gap_33 : decode cX2_gap 33 = .ok (.aload_n 0, 1) := by decide +kernel
theorem dX2_gap_34 : decode cX2_gap 34 = .ok (.iload_n 2, 1) := by decide +kernel
theorem dX2_gap_35 : decode cX2_gap 35 = .ok (.aload_n 0, 1) := by decide +kernel
theorem dX2_gap_36 : decode cX2_gap 36 = .ok (.invokevirtual 122, 3) := by decide +kernel
theorem dX2_gap_39 : decode cX2_gap 39 = .ok (.invokevirtual 159, 3) := by decide +kernel
theorem dX2_gap_42 : decode cX2_gap 42 = .ok (.lstore_n 3, 1) := by decide +kernel
theorem dX2_gap_43 : decode cX2_gap 43 = .ok (.aload_n 0, 1) := by decide +kernel
theorem dX2_gap_44 : decode cX2_gap 44 = .ok (.getfield 11, 3) := by decide +kernel
theorem dX2_gap_47 : decode cX2_gap 47 = .ok (.iload_n 1, 1) := by decide +kernel
theorem dX2_gap_48 : decode cX2_gap 48 = .ok (.aaload, 1) := by decide +kernel
theorem dX2_gap_49 : decode cX2_gap 49 = .ok (.iload_n 2, 1) := by decide +kernel
theorem dX2_gap_50 : decode cX2_gap 50 = .ok (.invokevirtual 118, 3) := by decide +kernel
theorem dX2_gap_53 : decode cX2_gap 53 = .ok (.i2l, 1) := by decide +kernel
theorem dX2_gap_54 : decode cX2_gap 54 = .ok (.aload_n 0, 1) := by decide +kernel
theorem dX2_gap_55 : decode cX2_gap 55 = .ok (.getfield 11, 3) := by decide +kernel
theorem dX2_gap_58 : decode cX2_gap 58 = .ok (.iload_n 1, 1) := by decide +kernel
theorem dX2_gap_59 : decode cX2_gap 59 = .ok (.aaload, 1) := by decide +kernel
theorem dX2_gap_60 : decode cX2_gap 60 = .ok (.lload_n 3, 1) := by decide +kernel
theorem dX2_gap_61 : decode cX2_gap 61 = .ok (.invokevirtual 167, 3) := by decide +kernel
theorem dX2_gap_64 : decode cX2_gap 64 = .ok (.lsub, 1) := by decide +kernel
theorem dX2_gap_65 : decode cX2_gap 65 = .ok (.lreturn, 1) := by decide +kernel
set_option maxRecDepth 20000 in
theorem ggX2_switches_X2_eligibleBits : GoodIn wsX2_switches wsX2_eligibleBits := goodIn_r _ [5, 6, 7, 8, 9, 4, 10, 11, 12, 13, 14, 15, 16, 17, 18, 19, 70, 71, 72, 73, 74, 75, 76, 77, 78, 79, 80, 81, 82, 83, 84, 85, 86, 87, 88] (by decide +kernel) (by decide +kernel)
set_option maxRecDepth 20000 in
theorem gX2_switches_X2_eligibleBits : GoodIn wsX2_switches (wsV RX2 122 RX2 yX2_eligibleBits wsX2_eligibleBits) := goodIn_app (goodIn_of _ (by decide +kernel)) ggX2_switches_X2_eligibleBits
set_option maxRecDepth 20000 in
theorem ggX2_switches_X2_isRate : GoodIn wsX2_switches wsX2_isRate := goodIn_r _ [22, 17, 18, 4, 19] (by decide +kernel) (by decide +kernel)
set_option maxRecDepth 20000 in
theorem gX2_switches_X2_isRate : GoodIn wsX2_switches (va_wsS RX2 115 yX2_isRate wsX2_isRate) := goodIn_app (goodIn_of _ (by decide +kernel)) ggX2_switches_X2_isRate
set_option maxRecDepth 20000 in
theorem ggX2_switches_X2_keepWorths : GoodIn wsX2_switches wsX2_keepWorths := goodIn_r _ [26, 6, 11, 27, 28, 4, 29, 30, 31, 32, 33, 34, 35, 36, 70, 71, 72, 73, 74, 75, 76, 77, 78, 79, 80, 81, 82, 83, 84, 85, 86, 87, 88] (by decide +kernel) (by decide +kernel)
set_option maxRecDepth 20000 in
theorem gX2_switches_X2_keepWorths : GoodIn wsX2_switches (wsV RX2 171 RX2 yX2_keepWorths wsX2_keepWorths) := goodIn_app (goodIn_of _ (by decide +kernel)) ggX2_switches_X2_keepWorths
set_option maxRecDepth 20000 in
theorem ggX2_switches_X2_cheapestAt : GoodIn wsX2_switches wsX2_cheapestAt := goodIn_r _ [40, 6, 41, 42, 43, 4, 44, 45, 11, 27, 28, 29, 46, 47, 48, 33, 49, 50, 51, 52, 53, 54, 55, 56, 57, 58, 35, 18, 19, 59, 60, 61, 62, 63, 64, 65, 66, 67, 68, 69, 16, 70, 71, 72, 73, 74, 75, 76, 77, 78, 79, 80, 81, 82, 83, 84, 85, 86, 87, 88] (by decide +kernel) (by decide +kernel)
set_option maxRecDepth 20000 in
theorem gX2_switches_X2_cheapestAt : GoodIn wsX2_switches (wsV RX2 144 RX2 yX2_cheapestAt wsX2_cheapestAt) := goodIn_app (goodIn_of _ (by decide +kernel)) ggX2_switches_X2_cheapestAt
theorem dX2_switches_0 : decode cX2_switches 0 = .ok (.aload_n 0, 1) := by decide +kernel
theorem dX2_switches_1 : decode cX2_switches 1 = .ok (.invokevirtual 122, 3) := by decide +kernel
theorem dX2_switches_4 : decode cX2_switches 4 = .ok (.istore 4, 2) := by decide +kernel
theorem dX2_switches_6 : decode cX2_switches 6 = .ok (.iload_n 1, 1) := by decide +kernel
theorem dX2_switches_7 : decode cX2_switches 7 = .ok (.invokestatic 115, 3) := by decide +kernel
theorem dX2_switches_10 : decode cX2_switches 10 = .ok (.ifCond .eq 25, 3) := by decide +kernel
theorem dX2_switches_13 : decode cX2_switches 13 = .ok (.iload_n 2, 1) := by decide +kernel
theorem dX2_switches_14 : decode cX2_switches 14 = .ok (.invokestatic 115, 3) := by decide +kernel
theorem dX2_switches_17 : decode cX2_switches 17 = .ok (.ifCond .eq 18, 3) := by decide +kernel
theorem dX2_switches_20 : decode cX2_switches 20 = .ok (.iload_n 1, 1) := by decide +kernel
theorem dX2_switches_21 : decode cX2_switches 21 = .ok (.iload_n 2, 1) := by decide +kernel
theorem dX2_switches_22 : decode cX2_switches 22 = .ok (.if_icmp .gt 13, 3) := by decide +kernel
theorem dX2_switches_25 : decode cX2_switches 25 = .ok (.iload_n 3, 1) := by decide +kernel
theorem dX2_switches_26 : decode cX2_switches 26 = .ok (.iconst (-1), 1) := by decide +kernel
theorem dX2_switches_27 : decode cX2_switches 27 = .ok (.if_icmp .lt 8, 3) := by decide +kernel
theorem dX2_switches_30 : decode cX2_switches 30 = .ok (.iload 4, 2) := by decide +kernel
theorem dX2_switches_32 : decode cX2_switches 32 = .ok (.ifCond .ne 5, 3) := by decide +kernel
theorem dX2_switches_35 : decode cX2_switches 35 = .ok (.iconst (-1), 1) := by decide +kernel
theorem dX2_switches_36 : decode cX2_switches 36 = .ok (.ireturn, 1) := by decide +kernel
theorem dX2_switches_37 : decode cX2_switches 37 = .ok (.aload_n 0, 1) := by decide +kernel
theorem dX2_switches_38 : decode cX2_switches 38 = .ok (.iload 4, 2) := by decide +kernel
theorem dX2_switches_40 : decode cX2_switches 40 = .ok (.invokevirtual 171, 3) := by decide +kernel
theorem dX2_switches_43 : decode cX2_switches 43 = .ok (.iconst 0, 1) := by decide +kernel
theorem dX2_switches_44 : decode cX2_switches 44 = .ok (.istore 5, 2) := by decide +kernel
theorem dX2_switches_46 : decode cX2_switches 46 = .ok (.aload_n 0, 1) := by decide +kernel
theorem dX2_switches_47 : decode cX2_switches 47 = .ok (.iload_n 1, 1) := by decide +kernel
theorem dX2_switches_48 : decode cX2_switches 48 = .ok (.iload 4, 2) := by decide +kernel
theorem dX2_switches_50 : decode cX2_switches 50 = .ok (.invokevirtual 144, 3) := by decide +kernel
theorem dX2_switches_53 : decode cX2_switches 53 = .ok (.istore 6, 2) := by decide +kernel
theorem dX2_switches_55 : decode cX2_switches 55 = .ok (.iload_n 1, 1) := by decide +kernel
theorem dX2_switches_56 : decode cX2_switches 56 = .ok (.iconst 1, 1) := by decide +kernel
theorem dX2_switches_57 : decode cX2_switches 57 = .ok (.iadd, 1) := by decide +kernel
theorem dX2_switches_58 : decode cX2_switches 58 = .ok (.istore 7, 2) := by decide +kernel
theorem dX2_switches_60 : decode cX2_switches 60 = .ok (.iload 7, 2) := by decide +kernel
theorem dX2_switches_62 : decode cX2_switches 62 = .ok (.iload_n 2, 1) := by decide +kernel
theorem dX2_switches_63 : decode cX2_switches 63 = .ok (.if_icmp .gt 42, 3) := by decide +kernel
theorem dX2_switches_66 : decode cX2_switches 66 = .ok (.aload_n 0, 1) := by decide +kernel
theorem dX2_switches_67 : decode cX2_switches 67 = .ok (.iload 7, 2) := by decide +kernel
theorem dX2_switches_69 : decode cX2_switches 69 = .ok (.iload 4, 2) := by decide +kernel
theorem dX2_switches_71 : decode cX2_switches 71 = .ok (.invokevirtual 144, 3) := by decide +kernel
theorem dX2_switches_74 : decode cX2_switches 74 = .ok (.istore 8, 2) := by decide +kernel
theorem dX2_switches_76 : decode cX2_switches 76 = .ok (.iload 8, 2) := by decide +kernel
theorem dX2_switches_78 : decode cX2_switches 78 = .ok (.iload 6, 2) := by decide +kernel
theorem dX2_switches_80 : decode cX2_switches 80 = .ok (.if_icmp .eq 15, 3) := by decide +kernel
theorem dX2_switches_83 : decode cX2_switches 83 = .ok (.iload 5, 2) := by decide +kernel
theorem dX2_switches_85 : decode cX2_switches 85 = .ok (.iload_n 3, 1) := by decide +kernel
theorem dX2_switches_86 : decode cX2_switches 86 = .ok (.if_icmp .ne 6, 3) := by decide +kernel
theorem dX2_switches_89 : decode cX2_switches 89 = .ok (.iload 7, 2) := by decide +kernel
theorem dX2_switches_91 : decode cX2_switches 91 = .ok (.ireturn, 1) := by decide +kernel
theorem dX2_switches_92 : decode cX2_switches 92 = .ok (.iinc 5 1, 3) := by decide +kernel
theorem dX2_switches_95 : decode cX2_switches 95 = .ok (.iload 8, 2) := by decide +kernel
theorem dX2_switches_97 : decode cX2_switches 97 = .ok (.istore 6, 2) := by decide +kernel
theorem dX2_switches_99 : decode cX2_switches 99 = .ok (.iinc 7 1, 3) := by decide +kernel
theorem dX2_switches_102 : decode cX2_switches 102 = .ok (.goto (-42), 3) := by decide +kernel
theorem dX2_switches_105 : decode cX2_switches 105 = .ok (.iload_n 3, 1) := by decide +kernel
theorem dX2_switches_106 : decode cX2_switches 106 = .ok (.iconst (-1), 1) := by decide +kernel
theorem dX2_switches_107 : decode cX2_switches 107 = .ok (.if_icmp .ne 8, 3) := by decide +kernel
theorem dX2_switches_110 : decode cX2_switches 110 = .ok (.iload 5, 2) := by decide +kernel
theorem dX2_switches_112 : decode cX2_switches 112 = .ok (.goto 4, 3) := by decide +kernel
theorem dX2_switches_115 : decode cX2_switches 115 = .ok (.iconst (-1), 1) := by decide +kernel
theorem dX2_switches_116 : decode cX2_switches 116 = .ok (.ireturn, 1) := by decide +kernel
set_option maxRecDepth 20000 in
theorem ggX2_implied_X2_eligibleBits : GoodIn wsX2_implied wsX2_eligibleBits := goodIn_r _ [5, 6, 7, 8, 9, 4, 10, 11, 12, 13, 14, 15, 16, 17, 18, 19, 64, 65, 66, 67, 68, 69, 70, 71, 72, 73, 74, 75, 76, 77, 78, 79, 80, 81, 82] (by decide +kernel) (by decide +kernel)
set_option maxRecDepth 20000 in
theorem gX2_implied_X2_eligibleBits : GoodIn wsX2_implied (wsV RX2 122 RX2 yX2_eligibleBits wsX2_eligibleBits) := goodIn_app (goodIn_of _ (by decide +kernel)) ggX2_implied_X2_eligibleBits
set_option maxRecDepth 20000 in
theorem ggX2_implied_X2_markAt : GoodIn wsX2_implied wsX2_markAt := goodIn_r _ [23, 11, 16, 24, 25, 26, 27, 28, 29, 4, 30, 6, 31, 32, 33, 34, 35, 36, 37, 38, 39, 40, 41, 42, 43, 44, 45, 46, 47, 48, 49, 50, 51, 52, 18, 19, 53, 54, 55, 56, 57, 58, 59, 60, 61, 62, 63, 64, 65, 66, 67, 68, 69, 70, 71, 72, 73, 74, 75, 76, 77, 78, 79, 80, 81, 82] (by decide +kernel) (by decide +kernel)
set_option maxRecDepth 20000 in
theorem gX2_implied_X2_markAt : GoodIn wsX2_implied (wsV RX2 159 RX2 yX2_markAt wsX2_markAt) := goodIn_app (goodIn_of _ (by decide +kernel)) ggX2_implied_X2_markAt
theorem dX2_implied_0 : decode cX2_implied 0 = .ok (.aload_n 0, 1) := by decide +kernel
theorem dX2_implied_1 : decode cX2_implied 1 = .ok (.invokevirtual 122, 3) := by decide +kernel
theorem dX2_implied_4 : decode cX2_implied 4 = .ok (.istore_n 3, 1) := by decide +kernel
theorem dX2_implied_5 : decode cX2_implied 5 = .ok (.iload_n 3, 1) := by decide +kernel
theorem dX2_implied_6 : decode cX2_implied 6 = .ok (.ifCond .ne 5, 3) := by decide +kernel
theorem dX2_implied_9 : decode cX2_implied 9 = .ok (.iconst (-1), 1) := by decide +kernel
theorem dX2_implied_10 : decode cX2_implied 10 = .ok (.ireturn, 1) := by decide +kernel
theorem dX2_implied_11 : decode cX2_implied 11 = .ok (.iconst (-1), 1) := by decide +kernel
theorem dX2_implied_12 : decode cX2_implied 12 = .ok (.istore 4, 2) := by decide +kernel
theorem dX2_implied_14 : decode cX2_implied 14 = .ok (.sipush 2048, 3) := by decide +kernel
theorem dX2_implied_17 : decode cX2_implied 17 = .ok (.istore 5, 2) := by decide +kernel
theorem dX2_implied_19 : decode cX2_implied 19 = .ok (.iload 5, 2) := by decide +kernel
theorem dX2_implied_21 : decode cX2_implied 21 = .ok (.ifCond .le 45, 3) := by decide +kernel
theorem dX2_implied_24 : decode cX2_implied 24 = .ok (.iload 4, 2) := by decide +kernel
theorem dX2_implied_26 : decode cX2_implied 26 = .ok (.iload 5, 2) := by decide +kernel
theorem dX2_implied_28 : decode cX2_implied 28 = .ok (.iadd, 1) := by decide +kernel
theorem dX2_implied_29 : decode cX2_implied 29 = .ok (.sipush 3000, 3) := by decide +kernel
theorem dX2_implied_32 : decode cX2_implied 32 = .ok (.if_icmp .gt 25, 3) := by decide +kernel
theorem dX2_implied_35 : decode cX2_implied 35 = .ok (.aload_n 0, 1) := by decide +kernel
theorem dX2_implied_36 : decode cX2_implied 36 = .ok (.iload 4, 2) := by decide +kernel
theorem dX2_implied_38 : decode cX2_implied 38 = .ok (.iload 5, 2) := by decide +kernel
theorem dX2_implied_40 : decode cX2_implied 40 = .ok (.iadd, 1) := by decide +kernel
theorem dX2_implied_41 : decode cX2_implied 41 = .ok (.iload_n 3, 1) := by decide +kernel
theorem dX2_implied_42 : decode cX2_implied 42 = .ok (.invokevirtual 159, 3) := by decide +kernel
theorem dX2_implied_45 : decode cX2_implied 45 = .ok (.lload_n 1, 1) := by decide +kernel
theorem dX2_implied_46 : decode cX2_implied 46 = .ok (.lcmp, 1) := by decide +kernel
theorem dX2_implied_47 : decode cX2_implied 47 = .ok (.ifCond .le 10, 3) := by decide +kernel
theorem dX2_implied_50 : decode cX2_implied 50 = .ok (.iload 4, 2) := by decide +kernel
theorem dX2_implied_52 : decode cX2_implied 52 = .ok (.iload 5, 2) := by decide +kernel
theorem dX2_implied_54 : decode cX2_implied 54 = .ok (.iadd, 1) := by decide +kernel
theorem dX2_implied_55 : decode cX2_implied 55 = .ok (.istore 4, 2) := by decide +kernel
theorem dX2_implied_57 : decode cX2_implied 57 = .ok (.iload 5, 2) := by decide +kernel
theorem dX2_implied_59 : decode cX2_implied 59 = .ok (.iconst 2, 1) := by decide +kernel
theorem dX2_implied_60 : decode cX2_implied 60 = .ok (.idiv, 1) := by decide +kernel
theorem dX2_implied_61 : decode cX2_implied 61 = .ok (.istore 5, 2) := by decide +kernel
theorem dX2_implied_63 : decode cX2_implied 63 = .ok (.goto (-44), 3) := by decide +kernel
theorem dX2_implied_66 : decode cX2_implied 66 = .ok (.iload 4, 2) := by decide +kernel
theorem dX2_implied_68 : decode cX2_implied 68 = .ok (.sipush 3000, 3) := by decide +kernel
theorem dX2_implied_71 : decode cX2_implied 71 = .ok (.if_icmp .ne 7, 3) := by decide +kernel
theorem dX2_implied_74 : decode cX2_implied 74 = .ok (.iconst (-1), 1) := by decide +kernel
theorem dX2_implied_75 : decode cX2_implied 75 = .ok (.goto 7, 3) := by decide +kernel
theorem dX2_implied_78 : decode cX2_implied 78 = .ok (.iload 4, 2) := by decide +kernel
theorem dX2_implied_80 : decode cX2_implied 80 = .ok (.iconst 1, 1) := by decide +kernel
theorem dX2_implied_81 : decode cX2_implied 81 = .ok (.iadd, 1) := by decide +kernel
theorem dX2_implied_82 : decode cX2_implied 82 = .ok (.ireturn, 1) := by decide +kernel
set_option maxRecDepth 20000 in
theorem ggX2_meet_X2_canAsk : GoodIn wsX2_meet wsX2_canAsk := goodIn_r _ [5, 6, 7, 8, 4, 9, 10, 11, 12] (by decide +kernel) (by decide +kernel)
set_option maxRecDepth 20000 in
theorem gX2_meet_X2_canAsk : GoodIn wsX2_meet (va_wsS RX2 174 yX2_canAsk wsX2_canAsk) := goodIn_app (goodIn_of _ (by decide +kernel)) ggX2_meet_X2_canAsk
set_option maxRecDepth 20000 in
theorem ggX2_meet_X2_has : GoodIn wsX2_meet wsX2_has := goodIn_r _ [16, 17, 7, 8, 4, 9, 79, 80, 81, 82, 83, 84, 85, 86, 87] (by decide +kernel) (by decide +kernel)
set_option maxRecDepth 20000 in
theorem gX2_meet_X2_has : GoodIn wsX2_meet (wsV RX2 63 RX2 yX2_has wsX2_has) := goodIn_app (goodIn_of _ (by decide +kernel)) ggX2_meet_X2_has
set_option maxRecDepth 20000 in
theorem ggX2_meet_X2_takeCheapest : GoodIn wsX2_meet wsX2_takeCheapest := goodIn_r _ [21, 1, 17, 22, 23, 24, 25, 26, 27, 28, 29, 30, 31, 4, 32, 33, 34, 35, 36, 37, 38, 39, 40, 41, 7, 8, 9, 42, 43, 44, 45, 46, 47, 48, 49, 50, 51, 52, 53, 54, 55, 56, 57, 58, 59, 60, 61, 62, 63, 64, 65, 66, 67, 68, 69, 70, 71, 72, 73, 74, 75, 76, 77, 78, 79, 80, 81, 82, 83, 84, 85, 86, 87, 88, 89, 90, 91, 92, 93, 94, 95, 96, 97] (by decide +kernel) (by decide +kernel)
set_option maxRecDepth 20000 in
theorem gX2_meet_X2_takeCheapest : GoodIn wsX2_meet (wsV RX2 177 RX2 yX2_takeCheapest wsX2_takeCheapest) := goodIn_app (goodIn_of _ (by decide +kernel)) ggX2_meet_X2_takeCheapest
theorem dX2_meet_0 : decode cX2_meet 0 = .ok (.iload_n 1, 1) := by decide +kernel
theorem dX2_meet_1 : decode cX2_meet 1 = .ok (.iload_n 2, 1) := by decide +kernel
theorem dX2_meet_2 : decode cX2_meet 2 = .ok (.iload_n 3, 1) := by decide +kernel
theorem dX2_meet_3 : decode cX2_meet 3 = .ok (.invokestatic 174, 3) := by decide +kernel
theorem dX2_meet_6 : decode cX2_meet 6 = .ok (.ifCond .eq 18, 3) := by decide +kernel
theorem dX2_meet_9 : decode cX2_meet 9 = .ok (.iload 4, 2) := by decide +kernel
theorem dX2_meet_11 : decode cX2_meet 11 = .ok (.iconst (-1), 1) := by decide +kernel
theorem dX2_meet_12 : decode cX2_meet 12 = .ok (.if_icmp .eq 14, 3) := by decide +kernel
theorem dX2_meet_15 : decode cX2_meet 15 = .ok (.aload_n 0, 1) := by decide +kernel
theorem dX2_meet_16 : decode cX2_meet 16 = .ok (.iload 4, 2) := by decide +kernel
theorem dX2_meet_18 : decode cX2_meet 18 = .ok (.invokevirtual 63, 3) := by decide +kernel
theorem dX2_meet_21 : decode cX2_meet 21 = .ok (.ifCond .ne 5, 3) := by decide +kernel
theorem dX2_meet_24 : decode cX2_meet 24 = .ok (.iconst (-1), 1) := by decide +kernel
theorem dX2_meet_25 : decode cX2_meet 25 = .ok (.ireturn, 1) := by decide +kernel
theorem dX2_meet_26 : decode cX2_meet 26 = .ok (.aload_n 0, 1) := by decide +kernel
theorem dX2_meet_27 : decode cX2_meet 27 = .ok (.iload_n 1, 1) := by decide +kernel
theorem dX2_meet_28 : decode cX2_meet 28 = .ok (.iload_n 2, 1) := by decide +kernel
theorem dX2_meet_29 : decode cX2_meet 29 = .ok (.iload_n 3, 1) := by decide +kernel
theorem dX2_meet_30 : decode cX2_meet 30 = .ok (.invokevirtual 177, 3) := by decide +kernel
theorem dX2_meet_33 : decode cX2_meet 33 = .ok (.istore 5, 2) := by decide +kernel
theorem dX2_meet_35 : decode cX2_meet 35 = .ok (.iload 4, 2) := by decide +kernel
theorem dX2_meet_37 : decode cX2_meet 37 = .ok (.iconst (-1), 1) := by decide +kernel
theorem dX2_meet_38 : decode cX2_meet 38 = .ok (.if_icmp .ne 14, 3) := by decide +kernel
theorem dX2_meet_41 : decode cX2_meet 41 = .ok (.iload 5, 2) := by decide +kernel
theorem dX2_meet_43 : decode cX2_meet 43 = .ok (.ifCond .eq 7, 3) := by decide +kernel
theorem dX2_meet_46 : decode cX2_meet 46 = .ok (.iconst 1, 1) := by decide +kernel
theorem dX2_meet_47 : decode cX2_meet 47 = .ok (.goto 4, 3) := by decide +kernel
theorem dX2_meet_50 : decode cX2_meet 50 = .ok (.iconst 0, 1) := by decide +kernel
end
section
theorem dX2_meet_51 : decode cX2_meet 51 = .ok (.ireturn, 1) := by decide +kernel
theorem dX2_meet_52 : decode cX2_meet 52 = .ok (.iload 5, 2) := by decide +kernel
theorem dX2_meet_54 : decode cX2_meet 54 = .ok (.ifCond .eq 13, 3) := by decide +kernel
theorem dX2_meet_57 : decode cX2_meet 57 = .ok (.aload_n 0, 1) := by decide +kernel
theorem dX2_meet_58 : decode cX2_meet 58 = .ok (.getfield 40, 3) := by decide +kernel
theorem dX2_meet_61 : decode cX2_meet 61 = .ok (.iload 4, 2) := by decide +kernel
theorem dX2_meet_63 : decode cX2_meet 63 = .ok (.iaload, 1) := by decide +kernel
theorem dX2_meet_64 : decode cX2_meet 64 = .ok (.goto 4, 3) := by decide +kernel
theorem dX2_meet_67 : decode cX2_meet 67 = .ok (.iconst (-1), 1) := by decide +kernel
theorem dX2_meet_68 : decode cX2_meet 68 = .ok (.ireturn, 1) := by decide +kernel
set_option maxRecDepth 20000 in
theorem ggX2_cost_X2_canAsk : GoodIn wsX2_cost wsX2_canAsk := goodIn_r _ [9, 10, 11, 12, 8, 13, 14, 15, 16] (by decide +kernel) (by decide +kernel)
set_option maxRecDepth 20000 in
theorem gX2_cost_X2_canAsk : GoodIn wsX2_cost (va_wsS RX2 174 yX2_canAsk wsX2_canAsk) := goodIn_app (goodIn_of _ (by decide +kernel)) ggX2_cost_X2_canAsk
set_option maxRecDepth 20000 in
theorem ggX2_cost_X2_takeCheapest : GoodIn wsX2_cost wsX2_takeCheapest := goodIn_r _ [20, 4, 3, 5, 21, 22, 23, 24, 25, 26, 27, 28, 29, 8, 30, 31, 32, 33, 34, 35, 36, 37, 38, 39, 11, 12, 13, 40, 41, 42, 43, 44, 45, 46, 47, 48, 49, 50, 51, 52, 53, 54, 55, 56, 57, 58, 59, 60, 61, 62, 63, 64, 65, 66, 67, 68, 69, 70, 71, 72, 73, 74, 75, 76, 77, 78, 79, 80, 81, 82, 83, 84, 85, 86, 87, 88, 89, 90, 91, 92, 93, 94, 95] (by decide +kernel) (by decide +kernel)
set_option maxRecDepth 20000 in
theorem gX2_cost_X2_takeCheapest : GoodIn wsX2_cost (wsV RX2 177 RX2 yX2_takeCheapest wsX2_takeCheapest) := goodIn_app (goodIn_of _ (by decide +kernel)) ggX2_cost_X2_takeCheapest
theorem dX2_cost_0 : decode cX2_cost 0 = .ok (.iload_n 1, 1) := by decide +kernel
theorem dX2_cost_1 : decode cX2_cost 1 = .ok (.iload_n 2, 1) := by decide +kernel
theorem dX2_cost_2 : decode cX2_cost 2 = .ok (.iload_n 3, 1) := by decide +kernel
theorem dX2_cost_3 : decode cX2_cost 3 = .ok (.invokestatic 174, 3) := by decide +kernel
theorem dX2_cost_6 : decode cX2_cost 6 = .ok (.ifCond .eq 13, 3) := by decide +kernel
theorem dX2_cost_9 : decode cX2_cost 9 = .ok (.aload_n 0, 1) := by decide +kernel
theorem dX2_cost_10 : decode cX2_cost 10 = .ok (.iload_n 1, 1) := by decide +kernel
theorem dX2_cost_11 : decode cX2_cost 11 = .ok (.iload_n 2, 1) := by decide +kernel
theorem dX2_cost_12 : decode cX2_cost 12 = .ok (.iload_n 3, 1) := by decide +kernel
theorem dX2_cost_13 : decode cX2_cost 13 = .ok (.invokevirtual 177, 3) := by decide +kernel
theorem dX2_cost_16 : decode cX2_cost 16 = .ok (.ifCond .ne 13, 3) := by decide +kernel
theorem dX2_cost_19 : decode cX2_cost 19 = .ok (.new 76, 3) := by decide +kernel
theorem dX2_cost_22 : decode cX2_cost 22 = .ok (.dup, 1) := by decide +kernel
theorem dX2_cost_23 : decode cX2_cost 23 = .ok (.ldc 180, 2) := by decide +kernel
theorem dX2_cost_25 : decode cX2_cost 25 = .ok (.invokespecial 80, 3) := by decide +kernel
theorem dX2_cost_28 : decode cX2_cost 28 = .ok (.athrow, 1) := by decide +kernel
theorem dX2_cost_29 : decode cX2_cost 29 = .ok (.lconst 0, 1) := by decide +kernel
theorem dX2_cost_30 : decode cX2_cost 30 = .ok (.lstore 4, 2) := by decide +kernel
theorem dX2_cost_32 : decode cX2_cost 32 = .ok (.iconst 0, 1) := by decide +kernel
theorem dX2_cost_33 : decode cX2_cost 33 = .ok (.istore 6, 2) := by decide +kernel
theorem dX2_cost_35 : decode cX2_cost 35 = .ok (.iload 6, 2) := by decide +kernel
theorem dX2_cost_37 : decode cX2_cost 37 = .ok (.aload_n 0, 1) := by decide +kernel
theorem dX2_cost_38 : decode cX2_cost 38 = .ok (.getfield 44, 3) := by decide +kernel
theorem dX2_cost_41 : decode cX2_cost 41 = .ok (.if_icmp .ge 40, 3) := by decide +kernel
theorem dX2_cost_44 : decode cX2_cost 44 = .ok (.aload_n 0, 1) := by decide +kernel
theorem dX2_cost_45 : decode cX2_cost 45 = .ok (.getfield 40, 3) := by decide +kernel
theorem dX2_cost_48 : decode cX2_cost 48 = .ok (.iload 6, 2) := by decide +kernel
theorem dX2_cost_50 : decode cX2_cost 50 = .ok (.iaload, 1) := by decide +kernel
theorem dX2_cost_51 : decode cX2_cost 51 = .ok (.ifCond .le 24, 3) := by decide +kernel
theorem dX2_cost_54 : decode cX2_cost 54 = .ok (.lload 4, 2) := by decide +kernel
theorem dX2_cost_56 : decode cX2_cost 56 = .ok (.aload_n 0, 1) := by decide +kernel
theorem dX2_cost_57 : decode cX2_cost 57 = .ok (.getfield 40, 3) := by decide +kernel
theorem dX2_cost_60 : decode cX2_cost 60 = .ok (.iload 6, 2) := by decide +kernel
theorem dX2_cost_62 : decode cX2_cost 62 = .ok (.iaload, 1) := by decide +kernel
theorem dX2_cost_63 : decode cX2_cost 63 = .ok (.i2l, 1) := by decide +kernel
theorem dX2_cost_64 : decode cX2_cost 64 = .ok (.aload_n 0, 1) := by decide +kernel
theorem dX2_cost_65 : decode cX2_cost 65 = .ok (.getfield 36, 3) := by decide +kernel
theorem dX2_cost_68 : decode cX2_cost 68 = .ok (.iload 6, 2) := by decide +kernel
theorem dX2_cost_70 : decode cX2_cost 70 = .ok (.laload, 1) := by decide +kernel
theorem dX2_cost_71 : decode cX2_cost 71 = .ok (.lmul, 1) := by decide +kernel
theorem dX2_cost_72 : decode cX2_cost 72 = .ok (.ladd, 1) := by decide +kernel
theorem dX2_cost_73 : decode cX2_cost 73 = .ok (.lstore 4, 2) := by decide +kernel
theorem dX2_cost_75 : decode cX2_cost 75 = .ok (.iinc 6 1, 3) := by decide +kernel
theorem dX2_cost_78 : decode cX2_cost 78 = .ok (.goto (-43), 3) := by decide +kernel
theorem dX2_cost_81 : decode cX2_cost 81 = .ok (.lload 4, 2) := by decide +kernel
theorem dX2_cost_83 : decode cX2_cost 83 = .ok (.lreturn, 1) := by decide +kernel
set_option maxRecDepth 20000 in
theorem ggX2_tree_X2_within : GoodIn wsX2_tree wsX2_within := goodIn_r _ [8] (by decide +kernel) (by decide +kernel)
set_option maxRecDepth 20000 in
theorem gX2_tree_X2_within : GoodIn wsX2_tree (va_wsS RX2 47 yX2_within wsX2_within) := goodIn_app (goodIn_of _ (by decide +kernel)) ggX2_tree_X2_within
set_option maxRecDepth 20000 in
theorem ggX2_tree_X2_isRate : GoodIn wsX2_tree wsX2_isRate := goodIn_r _ [11, 5, 6, 7, 8] (by decide +kernel) (by decide +kernel)
set_option maxRecDepth 20000 in
theorem gX2_tree_X2_isRate : GoodIn wsX2_tree (va_wsS RX2 115 yX2_isRate wsX2_isRate) := goodIn_app (goodIn_of _ (by decide +kernel)) ggX2_tree_X2_isRate
set_option maxRecDepth 20000 in
theorem ggX2_tree_X1_change : GoodIn wsX2_tree wsX1_change := goodIn_r _ [16, 17, 18, 19, 20, 21, 31, 32, 33, 34, 35, 36, 37, 38, 39, 40, 41, 42] (by decide +kernel) (by decide +kernel)
set_option maxRecDepth 20000 in
theorem gX2_tree_X1_change : GoodIn wsX2_tree (wsV RX2 185 RX1 yX1_change wsX1_change) := goodIn_app (goodIn_of _ (by decide +kernel)) ggX2_tree_X1_change
theorem dX2_tree_0 : decode cX2_tree 0 = .ok (.iload_n 1, 1) := by decide +kernel
theorem dX2_tree_1 : decode cX2_tree 1 = .ok (.iconst 0, 1) := by decide +kernel
theorem dX2_tree_2 : decode cX2_tree 2 = .ok (.bipush 20, 2) := by decide +kernel
theorem dX2_tree_4 : decode cX2_tree 4 = .ok (.invokestatic 47, 3) := by decide +kernel
theorem dX2_tree_7 : decode cX2_tree 7 = .ok (.ifCond .eq 43, 3) := by decide +kernel
theorem dX2_tree_10 : decode cX2_tree 10 = .ok (.iload_n 2, 1) := by decide +kernel
theorem dX2_tree_11 : decode cX2_tree 11 = .ok (.invokestatic 115, 3) := by decide +kernel
theorem dX2_tree_14 : decode cX2_tree 14 = .ok (.ifCond .eq 36, 3) := by decide +kernel
theorem dX2_tree_17 : decode cX2_tree 17 = .ok (.iload_n 3, 1) := by decide +kernel
theorem dX2_tree_18 : decode cX2_tree 18 = .ok (.iconst 0, 1) := by decide +kernel
theorem dX2_tree_19 : decode cX2_tree 19 = .ok (.bipush 50, 2) := by decide +kernel
theorem dX2_tree_21 : decode cX2_tree 21 = .ok (.invokestatic 47, 3) := by decide +kernel
theorem dX2_tree_24 : decode cX2_tree 24 = .ok (.ifCond .eq 26, 3) := by decide +kernel
theorem dX2_tree_27 : decode cX2_tree 27 = .ok (.iload 4, 2) := by decide +kernel
theorem dX2_tree_29 : decode cX2_tree 29 = .ok (.ldc 182, 2) := by decide +kernel
theorem dX2_tree_31 : decode cX2_tree 31 = .ok (.ldc 183, 2) := by decide +kernel
theorem dX2_tree_33 : decode cX2_tree 33 = .ok (.invokestatic 47, 3) := by decide +kernel
theorem dX2_tree_36 : decode cX2_tree 36 = .ok (.ifCond .eq 14, 3) := by decide +kernel
theorem dX2_tree_39 : decode cX2_tree 39 = .ok (.iload 5, 2) := by decide +kernel
theorem dX2_tree_41 : decode cX2_tree 41 = .ok (.iconst 0, 1) := by decide +kernel
theorem dX2_tree_42 : decode cX2_tree 42 = .ok (.ldc 184, 2) := by decide +kernel
theorem dX2_tree_44 : decode cX2_tree 44 = .ok (.invokestatic 47, 3) := by decide +kernel
theorem dX2_tree_47 : decode cX2_tree 47 = .ok (.ifCond .ne 5, 3) := by decide +kernel
theorem dX2_tree_50 : decode cX2_tree 50 = .ok (.iconst 0, 1) := by decide +kernel
theorem dX2_tree_51 : decode cX2_tree 51 = .ok (.ireturn, 1) := by decide +kernel
theorem dX2_tree_52 : decode cX2_tree 52 = .ok (.aload_n 0, 1) := by decide +kernel
theorem dX2_tree_53 : decode cX2_tree 53 = .ok (.getfield 28, 3) := by decide +kernel
theorem dX2_tree_56 : decode cX2_tree 56 = .ok (.iload_n 1, 1) := by decide +kernel
theorem dX2_tree_57 : decode cX2_tree 57 = .ok (.iload_n 2, 1) := by decide +kernel
theorem dX2_tree_58 : decode cX2_tree 58 = .ok (.iload_n 3, 1) := by decide +kernel
theorem dX2_tree_59 : decode cX2_tree 59 = .ok (.iload 4, 2) := by decide +kernel
theorem dX2_tree_61 : decode cX2_tree 61 = .ok (.iload 5, 2) := by decide +kernel
theorem dX2_tree_63 : decode cX2_tree 63 = .ok (.invokevirtual 185, 3) := by decide +kernel
theorem dX2_tree_66 : decode cX2_tree 66 = .ok (.ireturn, 1) := by decide +kernel
set_option maxRecDepth 20000 in
theorem ggX2_rate_X1_hasNode : GoodIn wsX2_rate wsX1_hasNode := goodIn_r _ [6, 7, 8, 9, 5, 10, 11, 12, 13, 14, 41, 42, 43, 44, 45, 46, 47, 48, 49, 50, 51, 52] (by decide +kernel) (by decide +kernel)
set_option maxRecDepth 20000 in
theorem gX2_rate_X1_hasNode : GoodIn wsX2_rate (wsV RX2 189 RX1 yX1_hasNode wsX1_hasNode) := goodIn_app (goodIn_of _ (by decide +kernel)) ggX2_rate_X1_hasNode
set_option maxRecDepth 20000 in
theorem ggX2_rate_X1_level : GoodIn wsX2_rate wsX1_level := goodIn_r _ [18, 11, 41, 42, 43, 44, 45, 46, 47, 48, 49, 50, 51, 52] (by decide +kernel) (by decide +kernel)
set_option maxRecDepth 20000 in
theorem gX2_rate_X1_level : GoodIn wsX2_rate (wsV RX2 192 RX1 yX1_level wsX1_level) := goodIn_app (goodIn_of _ (by decide +kernel)) ggX2_rate_X1_level
set_option maxRecDepth 20000 in
theorem ggX2_rate_X1_rateAt : GoodIn wsX2_rate wsX1_rateAt := goodIn_r _ [22, 23, 24, 11, 25, 26, 27, 28, 29, 30, 31, 41, 42, 43, 44, 45, 46, 47, 48, 49, 50, 51, 52] (by decide +kernel) (by decide +kernel)
set_option maxRecDepth 20000 in
theorem gX2_rate_X1_rateAt : GoodIn wsX2_rate (wsV RX2 195 RX1 yX1_rateAt wsX1_rateAt) := goodIn_app (goodIn_of _ (by decide +kernel)) ggX2_rate_X1_rateAt
theorem dX2_rate_0 : decode cX2_rate 0 = .ok (.aload_n 0, 1) := by decide +kernel
theorem dX2_rate_1 : decode cX2_rate 1 = .ok (.getfield 28, 3) := by decide +kernel
theorem dX2_rate_4 : decode cX2_rate 4 = .ok (.iload_n 1, 1) := by decide +kernel
theorem dX2_rate_5 : decode cX2_rate 5 = .ok (.iload_n 2, 1) := by decide +kernel
theorem dX2_rate_6 : decode cX2_rate 6 = .ok (.invokevirtual 189, 3) := by decide +kernel
theorem dX2_rate_9 : decode cX2_rate 9 = .ok (.ifCond .eq 22, 3) := by decide +kernel
theorem dX2_rate_12 : decode cX2_rate 12 = .ok (.aload_n 0, 1) := by decide +kernel
theorem dX2_rate_13 : decode cX2_rate 13 = .ok (.getfield 28, 3) := by decide +kernel
theorem dX2_rate_16 : decode cX2_rate 16 = .ok (.aload_n 0, 1) := by decide +kernel
theorem dX2_rate_17 : decode cX2_rate 17 = .ok (.getfield 28, 3) := by decide +kernel
theorem dX2_rate_20 : decode cX2_rate 20 = .ok (.iload_n 1, 1) := by decide +kernel
theorem dX2_rate_21 : decode cX2_rate 21 = .ok (.iload_n 2, 1) := by decide +kernel
theorem dX2_rate_22 : decode cX2_rate 22 = .ok (.invokevirtual 192, 3) := by decide +kernel
theorem dX2_rate_25 : decode cX2_rate 25 = .ok (.invokevirtual 195, 3) := by decide +kernel
theorem dX2_rate_28 : decode cX2_rate 28 = .ok (.goto 4, 3) := by decide +kernel
theorem dX2_rate_31 : decode cX2_rate 31 = .ok (.iconst (-1), 1) := by decide +kernel
theorem dX2_rate_32 : decode cX2_rate 32 = .ok (.ireturn, 1) := by decide +kernel
set_option maxRecDepth 20000 in
theorem ggX2_value_X2_eligibleBits : GoodIn wsX2_value wsX2_eligibleBits := goodIn_r _ [9, 10, 11, 12, 13, 8, 14, 15, 16, 17, 18, 19, 20, 21, 22, 23, 115, 116, 117, 118, 119, 120, 121, 122, 123, 136, 137, 138, 139, 140, 141, 142, 143, 144, 145] (by decide +kernel) (by decide +kernel)
set_option maxRecDepth 20000 in
theorem gX2_value_X2_eligibleBits : GoodIn wsX2_value (wsV RX2 122 RX2 yX2_eligibleBits wsX2_eligibleBits) := goodIn_app (goodIn_of _ (by decide +kernel)) ggX2_value_X2_eligibleBits
set_option maxRecDepth 20000 in
theorem ggX2_value_X1_hasNode : GoodIn wsX2_value wsX1_hasNode := goodIn_r _ [28, 29, 30, 31, 27, 32, 33, 22, 8, 23, 124, 125, 126, 127, 128, 129, 130, 131, 132, 133, 134, 135] (by decide +kernel) (by decide +kernel)
set_option maxRecDepth 20000 in
theorem gX2_value_X1_hasNode : GoodIn wsX2_value (wsV RX2 189 RX1 yX1_hasNode wsX1_hasNode) := goodIn_app (goodIn_of _ (by decide +kernel)) ggX2_value_X1_hasNode
set_option maxRecDepth 20000 in
theorem ggX2_value_X2_valueBy : GoodIn wsX2_value wsX2_valueBy := goodIn_r _ [37, 3, 15, 10, 38, 39, 40, 41, 42, 27, 43, 33, 44, 45, 46, 47, 48, 49, 50, 51, 52, 53, 54, 55, 56, 57, 58, 59, 60, 61, 62, 63, 64, 65, 66, 67, 68, 69, 22, 8, 23, 70, 71, 72, 73, 74, 75, 76, 77, 78, 79, 80, 81, 82, 83, 84, 85, 86, 87, 88, 89, 90, 91, 92, 93, 94, 95, 96, 97, 98, 99, 100, 101, 102, 103, 104, 105, 106, 107, 108, 109, 110, 111, 112, 113, 114, 115, 116, 117, 118, 119, 120, 121, 122, 123, 124, 125, 126, 127, 128, 129, 130, 131, 132, 133, 134, 135, 136, 137, 138, 139, 140, 141, 142, 143, 144, 145] (by decide +kernel) (by decide +kernel)
set_option maxRecDepth 20000 in
theorem gX2_value_X2_valueBy : GoodIn wsX2_value (wsV RX2 200 RX2 yX2_valueBy wsX2_valueBy) := goodIn_app (goodIn_of _ (by decide +kernel)) ggX2_value_X2_valueBy
theorem dX2_value_0 : decode cX2_value 0 = .ok (.aload_n 0, 1) := by decide +kernel
theorem dX2_value_1 : decode cX2_value 1 = .ok (.invokevirtual 122, 3) := by decide +kernel
theorem dX2_value_4 : decode cX2_value 4 = .ok (.istore_n 3, 1) := by decide +kernel
theorem dX2_value_5 : decode cX2_value 5 = .ok (.aload_n 0, 1) := by decide +kernel
theorem dX2_value_6 : decode cX2_value 6 = .ok (.getfield 28, 3) := by decide +kernel
theorem dX2_value_9 : decode cX2_value 9 = .ok (.iload_n 1, 1) := by decide +kernel
theorem dX2_value_10 : decode cX2_value 10 = .ok (.iload_n 2, 1) := by decide +kernel
theorem dX2_value_11 : decode cX2_value 11 = .ok (.invokevirtual 189, 3) := by decide +kernel
theorem dX2_value_14 : decode cX2_value 14 = .ok (.ifCond .eq 7, 3) := by decide +kernel
theorem dX2_value_17 : decode cX2_value 17 = .ok (.iload_n 3, 1) := by decide +kernel
theorem dX2_value_18 : decode cX2_value 18 = .ok (.ifCond .ne 13, 3) := by decide +kernel
theorem dX2_value_21 : decode cX2_value 21 = .ok (.new 76, 3) := by decide +kernel
theorem dX2_value_24 : decode cX2_value 24 = .ok (.dup, 1) := by decide +kernel
theorem dX2_value_25 : decode cX2_value 25 = .ok (.ldc 198, 2) := by decide +kernel
theorem dX2_value_27 : decode cX2_value 27 = .ok (.invokespecial 80, 3) := by decide +kernel
theorem dX2_value_30 : decode cX2_value 30 = .ok (.athrow, 1) := by decide +kernel
theorem dX2_value_31 : decode cX2_value 31 = .ok (.aload_n 0, 1) := by decide +kernel
theorem dX2_value_32 : decode cX2_value 32 = .ok (.iload_n 3, 1) := by decide +kernel
theorem dX2_value_33 : decode cX2_value 33 = .ok (.invokevirtual 200, 3) := by decide +kernel
theorem dX2_value_36 : decode cX2_value 36 = .ok (.pop2, 1) := by decide +kernel
theorem dX2_value_37 : decode cX2_value 37 = .ok (.aload_n 0, 1) := by decide +kernel
theorem dX2_value_38 : decode cX2_value 38 = .ok (.getfield 28, 3) := by decide +kernel
theorem dX2_value_41 : decode cX2_value 41 = .ok (.getfield 204, 3) := by decide +kernel
theorem dX2_value_44 : decode cX2_value 44 = .ok (.iload_n 1, 1) := by decide +kernel
theorem dX2_value_45 : decode cX2_value 45 = .ok (.aaload, 1) := by decide +kernel
theorem dX2_value_46 : decode cX2_value 46 = .ok (.iload_n 2, 1) := by decide +kernel
theorem dX2_value_47 : decode cX2_value 47 = .ok (.laload, 1) := by decide +kernel
theorem dX2_value_48 : decode cX2_value 48 = .ok (.lreturn, 1) := by decide +kernel
set_option maxRecDepth 20000 in
theorem ggX2_act_X2_eligibleBits : GoodIn wsX2_act wsX2_eligibleBits := goodIn_r _ [7, 8, 9, 10, 11, 6, 12, 13, 14, 15, 16, 17, 18, 19, 20, 21, 113, 114, 115, 116, 117, 118, 119, 120, 121, 134, 135, 136, 137, 138, 139, 140, 141, 142, 143] (by decide +kernel) (by decide +kernel)
set_option maxRecDepth 20000 in
theorem gX2_act_X2_eligibleBits : GoodIn wsX2_act (wsV RX2 122 RX2 yX2_eligibleBits wsX2_eligibleBits) := goodIn_app (goodIn_of _ (by decide +kernel)) ggX2_act_X2_eligibleBits
set_option maxRecDepth 20000 in
theorem ggX2_act_X1_hasNode : GoodIn wsX2_act wsX1_hasNode := goodIn_r _ [26, 27, 28, 29, 25, 30, 31, 20, 6, 21, 122, 123, 124, 125, 126, 127, 128, 129, 130, 131, 132, 133] (by decide +kernel) (by decide +kernel)
set_option maxRecDepth 20000 in
theorem gX2_act_X1_hasNode : GoodIn wsX2_act (wsV RX2 189 RX1 yX1_hasNode wsX1_hasNode) := goodIn_app (goodIn_of _ (by decide +kernel)) ggX2_act_X1_hasNode
set_option maxRecDepth 20000 in
theorem ggX2_act_X2_valueBy : GoodIn wsX2_act wsX2_valueBy := goodIn_r _ [35, 1, 13, 8, 36, 37, 38, 39, 40, 25, 41, 31, 42, 43, 44, 45, 46, 47, 48, 49, 50, 51, 52, 53, 54, 55, 56, 57, 58, 59, 60, 61, 62, 63, 64, 65, 66, 67, 20, 6, 21, 68, 69, 70, 71, 72, 73, 74, 75, 76, 77, 78, 79, 80, 81, 82, 83, 84, 85, 86, 87, 88, 89, 90, 91, 92, 93, 94, 95, 96, 97, 98, 99, 100, 101, 102, 103, 104, 105, 106, 107, 108, 109, 110, 111, 112, 113, 114, 115, 116, 117, 118, 119, 120, 121, 122, 123, 124, 125, 126, 127, 128, 129, 130, 131, 132, 133, 134, 135, 136, 137, 138, 139, 140, 141, 142, 143] (by decide +kernel) (by decide +kernel)
set_option maxRecDepth 20000 in
theorem gX2_act_X2_valueBy : GoodIn wsX2_act (wsV RX2 200 RX2 yX2_valueBy wsX2_valueBy) := goodIn_app (goodIn_of _ (by decide +kernel)) ggX2_act_X2_valueBy
theorem dX2_act_0 : decode cX2_act 0 = .ok (.aload_n 0, 1) := by decide +kernel
theorem dX2_act_1 : decode cX2_act 1 = .ok (.invokevirtual 122, 3) := by decide +kernel
theorem dX2_act_4 : decode cX2_act 4 = .ok (.istore_n 3, 1) := by decide +kernel
theorem dX2_act_5 : decode cX2_act 5 = .ok (.aload_n 0, 1) := by decide +kernel
theorem dX2_act_6 : decode cX2_act 6 = .ok (.getfield 28, 3) := by decide +kernel
theorem dX2_act_9 : decode cX2_act 9 = .ok (.iload_n 1, 1) := by decide +kernel
theorem dX2_act_10 : decode cX2_act 10 = .ok (.iload_n 2, 1) := by decide +kernel
theorem dX2_act_11 : decode cX2_act 11 = .ok (.invokevirtual 189, 3) := by decide +kernel
theorem dX2_act_14 : decode cX2_act 14 = .ok (.ifCond .eq 7, 3) := by decide +kernel
theorem dX2_act_17 : decode cX2_act 17 = .ok (.iload_n 3, 1) := by decide +kernel
theorem dX2_act_18 : decode cX2_act 18 = .ok (.ifCond .ne 5, 3) := by decide +kernel
theorem dX2_act_21 : decode cX2_act 21 = .ok (.iconst (-1), 1) := by decide +kernel
theorem dX2_act_22 : decode cX2_act 22 = .ok (.ireturn, 1) := by decide +kernel
theorem dX2_act_23 : decode cX2_act 23 = .ok (.aload_n 0, 1) := by decide +kernel
theorem dX2_act_24 : decode cX2_act 24 = .ok (.iload_n 3, 1) := by decide +kernel
theorem dX2_act_25 : decode cX2_act 25 = .ok (.invokevirtual 200, 3) := by decide +kernel
theorem dX2_act_28 : decode cX2_act 28 = .ok (.pop2, 1) := by decide +kernel
theorem dX2_act_29 : decode cX2_act 29 = .ok (.aload_n 0, 1) := by decide +kernel
theorem dX2_act_30 : decode cX2_act 30 = .ok (.getfield 28, 3) := by decide +kernel
theorem dX2_act_33 : decode cX2_act 33 = .ok (.getfield 208, 3) := by decide +kernel
theorem dX2_act_36 : decode cX2_act 36 = .ok (.iload_n 1, 1) := by decide +kernel
theorem dX2_act_37 : decode cX2_act 37 = .ok (.aaload, 1) := by decide +kernel
theorem dX2_act_38 : decode cX2_act 38 = .ok (.iload_n 2, 1) := by decide +kernel
theorem dX2_act_39 : decode cX2_act 39 = .ok (.iaload, 1) := by decide +kernel
theorem dX2_act_40 : decode cX2_act 40 = .ok (.ireturn, 1) := by decide +kernel
set_option maxRecDepth 20000 in
theorem ggX2_path_X2_eligibleBits : GoodIn wsX2_path wsX2_eligibleBits := goodIn_r _ [8, 9, 10, 11, 12, 7, 13, 14, 15, 16, 17, 18, 19, 20, 21, 22, 105, 106, 107, 108, 109, 110, 111, 112, 113, 126, 127, 128, 129, 130, 131, 132, 133, 134, 135] (by decide +kernel) (by decide +kernel)
set_option maxRecDepth 20000 in
theorem gX2_path_X2_eligibleBits : GoodIn wsX2_path (wsV RX2 122 RX2 yX2_eligibleBits wsX2_eligibleBits) := goodIn_app (goodIn_of _ (by decide +kernel)) ggX2_path_X2_eligibleBits
set_option maxRecDepth 20000 in
theorem ggX2_path_X2_within : GoodIn wsX2_path wsX2_within := goodIn_r _ [22] (by decide +kernel) (by decide +kernel)
set_option maxRecDepth 20000 in
theorem gX2_path_X2_within : GoodIn wsX2_path (va_wsS RX2 47 yX2_within wsX2_within) := goodIn_app (goodIn_of _ (by decide +kernel)) ggX2_path_X2_within
set_option maxRecDepth 20000 in
theorem ggX2_path_X2_valueBy : GoodIn wsX2_path wsX2_valueBy := goodIn_r _ [26, 1, 14, 9, 27, 2, 28, 29, 30, 31, 32, 33, 34, 35, 36, 37, 38, 39, 40, 41, 42, 43, 44, 45, 46, 47, 48, 49, 50, 51, 52, 53, 54, 55, 56, 57, 58, 59, 21, 7, 22, 60, 61, 62, 63, 64, 65, 66, 67, 68, 69, 70, 71, 72, 73, 74, 75, 76, 77, 78, 79, 80, 81, 82, 83, 84, 85, 86, 87, 88, 89, 90, 91, 92, 93, 94, 95, 96, 97, 98, 99, 100, 101, 102, 103, 104, 105, 106, 107, 108, 109, 110, 111, 112, 113, 114, 115, 116, 117, 118, 119, 120, 121, 122, 123, 124, 125, 126, 127, 128, 129, 130, 131, 132, 133, 134, 135] (by decide +kernel) (by decide +kernel)
set_option maxRecDepth 20000 in
theorem gX2_path_X2_valueBy : GoodIn wsX2_path (wsV RX2 200 RX2 yX2_valueBy wsX2_valueBy) := goodIn_app (goodIn_of _ (by decide +kernel)) ggX2_path_X2_valueBy
theorem dX2_path_0 : decode cX2_path 0 = .ok (.aload_n 0, 1) := by decide +kernel
theorem dX2_path_1 : decode cX2_path 1 = .ok (.invokevirtual 122, 3) := by decide +kernel
theorem dX2_path_4 : decode cX2_path 4 = .ok (.istore_n 3, 1) := by decide +kernel
theorem dX2_path_5 : decode cX2_path 5 = .ok (.iload_n 1, 1) := by decide +kernel
theorem dX2_path_6 : decode cX2_path 6 = .ok (.iconst 0, 1) := by decide +kernel
theorem dX2_path_7 : decode cX2_path 7 = .ok (.iconst 1, 1) := by decide +kernel
theorem dX2_path_8 : decode cX2_path 8 = .ok (.aload_n 0, 1) := by decide +kernel
theorem dX2_path_9 : decode cX2_path 9 = .ok (.getfield 28, 3) := by decide +kernel
theorem dX2_path_12 : decode cX2_path 12 = .ok (.getfield 129, 3) := by decide +kernel
theorem dX2_path_15 : decode cX2_path 15 = .ok (.ishl, 1) := by decide +kernel
theorem dX2_path_16 : decode cX2_path 16 = .ok (.iconst 1, 1) := by decide +kernel
theorem dX2_path_17 : decode cX2_path 17 = .ok (.isub, 1) := by decide +kernel
theorem dX2_path_18 : decode cX2_path 18 = .ok (.invokestatic 47, 3) := by decide +kernel
theorem dX2_path_21 : decode cX2_path 21 = .ok (.ifCond .eq 7, 3) := by decide +kernel
theorem dX2_path_24 : decode cX2_path 24 = .ok (.iload_n 3, 1) := by decide +kernel
theorem dX2_path_25 : decode cX2_path 25 = .ok (.ifCond .ne 5, 3) := by decide +kernel
theorem dX2_path_28 : decode cX2_path 28 = .ok (.iconst (-1), 1) := by decide +kernel
theorem dX2_path_29 : decode cX2_path 29 = .ok (.ireturn, 1) := by decide +kernel
theorem dX2_path_30 : decode cX2_path 30 = .ok (.aload_n 0, 1) := by decide +kernel
theorem dX2_path_31 : decode cX2_path 31 = .ok (.iload_n 3, 1) := by decide +kernel
theorem dX2_path_32 : decode cX2_path 32 = .ok (.invokevirtual 200, 3) := by decide +kernel
theorem dX2_path_35 : decode cX2_path 35 = .ok (.pop2, 1) := by decide +kernel
theorem dX2_path_36 : decode cX2_path 36 = .ok (.iconst 0, 1) := by decide +kernel
theorem dX2_path_37 : decode cX2_path 37 = .ok (.istore 4, 2) := by decide +kernel
theorem dX2_path_39 : decode cX2_path 39 = .ok (.iconst 0, 1) := by decide +kernel
theorem dX2_path_40 : decode cX2_path 40 = .ok (.istore 5, 2) := by decide +kernel
theorem dX2_path_42 : decode cX2_path 42 = .ok (.iload 5, 2) := by decide +kernel
theorem dX2_path_44 : decode cX2_path 44 = .ok (.aload_n 0, 1) := by decide +kernel
theorem dX2_path_45 : decode cX2_path 45 = .ok (.getfield 28, 3) := by decide +kernel
theorem dX2_path_48 : decode cX2_path 48 = .ok (.getfield 129, 3) := by decide +kernel
theorem dX2_path_51 : decode cX2_path 51 = .ok (.if_icmp .gt 54, 3) := by decide +kernel
theorem dX2_path_54 : decode cX2_path 54 = .ok (.aload_n 0, 1) := by decide +kernel
theorem dX2_path_55 : decode cX2_path 55 = .ok (.getfield 28, 3) := by decide +kernel
theorem dX2_path_58 : decode cX2_path 58 = .ok (.getfield 208, 3) := by decide +kernel
theorem dX2_path_61 : decode cX2_path 61 = .ok (.iload 5, 2) := by decide +kernel
theorem dX2_path_63 : decode cX2_path 63 = .ok (.aaload, 1) := by decide +kernel
theorem dX2_path_64 : decode cX2_path 64 = .ok (.iload 4, 2) := by decide +kernel
theorem dX2_path_66 : decode cX2_path 66 = .ok (.iaload, 1) := by decide +kernel
theorem dX2_path_67 : decode cX2_path 67 = .ok (.istore 6, 2) := by decide +kernel
theorem dX2_path_69 : decode cX2_path 69 = .ok (.iload 6, 2) := by decide +kernel
theorem dX2_path_71 : decode cX2_path 71 = .ok (.bipush (-2), 2) := by decide +kernel
theorem dX2_path_73 : decode cX2_path 73 = .ok (.if_icmp .eq 15, 3) := by decide +kernel
theorem dX2_path_76 : decode cX2_path 76 = .ok (.iload_n 2, 1) := by decide +kernel
theorem dX2_path_77 : decode cX2_path 77 = .ok (.ifCond .eq 8, 3) := by decide +kernel
theorem dX2_path_80 : decode cX2_path 80 = .ok (.iload 6, 2) := by decide +kernel
theorem dX2_path_82 : decode cX2_path 82 = .ok (.goto 5, 3) := by decide +kernel
theorem dX2_path_85 : decode cX2_path 85 = .ok (.iload 5, 2) := by decide +kernel
theorem dX2_path_87 : decode cX2_path 87 = .ok (.ireturn, 1) := by decide +kernel
theorem dX2_path_88 : decode cX2_path 88 = .ok (.iload 4, 2) := by decide +kernel
theorem dX2_path_90 : decode cX2_path 90 = .ok (.iload_n 1, 1) := by decide +kernel
theorem dX2_path_91 : decode cX2_path 91 = .ok (.iload 5, 2) := by decide +kernel
theorem dX2_path_93 : decode cX2_path 93 = .ok (.ishr, 1) := by decide +kernel
theorem dX2_path_94 : decode cX2_path 94 = .ok (.iconst 1, 1) := by decide +kernel
theorem dX2_path_95 : decode cX2_path 95 = .ok (.iand, 1) := by decide +kernel
theorem dX2_path_96 : decode cX2_path 96 = .ok (.iadd, 1) := by decide +kernel
theorem dX2_path_97 : decode cX2_path 97 = .ok (.istore 4, 2) := by decide +kernel
theorem dX2_path_99 : decode cX2_path 99 = .ok (.iinc 5 1, 3) := by decide +kernel
theorem dX2_path_102 : decode cX2_path 102 = .ok (.goto (-60), 3) := by decide +kernel
theorem dX2_path_105 : decode cX2_path 105 = .ok (.iconst (-1), 1) := by decide +kernel
theorem dX2_path_106 : decode cX2_path 106 = .ok (.ireturn, 1) := by decide +kernel
set_option maxRecDepth 20000 in
theorem ggX2_often_X2_eligibleBits : GoodIn wsX2_often wsX2_eligibleBits := goodIn_r _ [6, 7, 8, 9, 10, 5, 11, 12, 13, 14, 15, 16, 17, 18, 19, 20, 117, 118, 119, 120, 121, 122, 123, 124, 125, 126, 127, 128, 129, 130, 131, 132, 133, 134, 135] (by decide +kernel) (by decide +kernel)
set_option maxRecDepth 20000 in
theorem gX2_often_X2_eligibleBits : GoodIn wsX2_often (wsV RX2 122 RX2 yX2_eligibleBits wsX2_eligibleBits) := goodIn_app (goodIn_of _ (by decide +kernel)) ggX2_often_X2_eligibleBits
set_option maxRecDepth 20000 in
theorem ggX2_often_X1_hasDay : GoodIn wsX2_often wsX1_hasDay := goodIn_r _ [25, 26, 19, 5, 20, 136, 137, 138, 139, 140, 141, 142, 143, 144, 145, 146, 147] (by decide +kernel) (by decide +kernel)
set_option maxRecDepth 20000 in
theorem gX2_often_X1_hasDay : GoodIn wsX2_often (wsV RX2 212 RX1 yX1_hasDay wsX1_hasDay) := goodIn_app (goodIn_of _ (by decide +kernel)) ggX2_often_X1_hasDay
set_option maxRecDepth 20000 in
theorem ggX2_often_X2_valueBy : GoodIn wsX2_often wsX2_valueBy := goodIn_r _ [30, 1, 12, 7, 31, 32, 33, 34, 35, 24, 36, 26, 37, 38, 39, 40, 41, 42, 43, 44, 45, 46, 47, 48, 49, 50, 51, 52, 53, 54, 55, 56, 57, 58, 59, 60, 61, 62, 19, 5, 20, 63, 64, 65, 66, 67, 68, 69, 70, 71, 72, 73, 74, 75, 76, 77, 78, 79, 80, 81, 82, 83, 84, 85, 86, 87, 88, 89, 90, 91, 92, 93, 94, 95, 96, 97, 98, 99, 100, 101, 102, 103, 104, 105, 106, 107, 117, 118, 119, 120, 121, 122, 123, 124, 125, 136, 137, 138, 139, 140, 141, 142, 143, 144, 145, 146, 147, 126, 127, 128, 129, 130, 131, 132, 133, 134, 135] (by decide +kernel) (by decide +kernel)
set_option maxRecDepth 20000 in
theorem gX2_often_X2_valueBy : GoodIn wsX2_often (wsV RX2 200 RX2 yX2_valueBy wsX2_valueBy) := goodIn_app (goodIn_of _ (by decide +kernel)) ggX2_often_X2_valueBy
set_option maxRecDepth 20000 in
theorem ggX2_often_X1_pathsThatEndOn : GoodIn wsX2_often wsX1_pathsThatEndOn := goodIn_r _ [111, 112, 95, 26, 113, 114, 115, 116, 136, 137, 138, 139, 140, 141, 142, 143, 144, 145, 146, 147] (by decide +kernel) (by decide +kernel)
set_option maxRecDepth 20000 in
theorem gX2_often_X1_pathsThatEndOn : GoodIn wsX2_often (wsV RX2 215 RX1 yX1_pathsThatEndOn wsX1_pathsThatEndOn) := goodIn_app (goodIn_of _ (by decide +kernel)) ggX2_often_X1_pathsThatEndOn
theorem dX2_often_0 : decode cX2_often 0 = .ok (.aload_n 0, 1) := by decide +kernel
theorem dX2_often_1 : decode cX2_often 1 = .ok (.invokevirtual 122, 3) := by decide +kernel
theorem dX2_often_4 : decode cX2_often 4 = .ok (.istore_n 2, 1) := by decide +kernel
theorem dX2_often_5 : decode cX2_often 5 = .ok (.aload_n 0, 1) := by decide +kernel
theorem dX2_often_6 : decode cX2_often 6 = .ok (.getfield 28, 3) := by decide +kernel
theorem dX2_often_9 : decode cX2_often 9 = .ok (.iload_n 1, 1) := by decide +kernel
theorem dX2_often_10 : decode cX2_often 10 = .ok (.invokevirtual 212, 3) := by decide +kernel
theorem dX2_often_13 : decode cX2_often 13 = .ok (.ifCond .eq 7, 3) := by decide +kernel
theorem dX2_often_16 : decode cX2_often 16 = .ok (.iload_n 2, 1) := by decide +kernel
theorem dX2_often_17 : decode cX2_often 17 = .ok (.ifCond .ne 5, 3) := by decide +kernel
theorem dX2_often_20 : decode cX2_often 20 = .ok (.iconst (-1), 1) := by decide +kernel
theorem dX2_often_21 : decode cX2_often 21 = .ok (.ireturn, 1) := by decide +kernel
theorem dX2_often_22 : decode cX2_often 22 = .ok (.aload_n 0, 1) := by decide +kernel
theorem dX2_often_23 : decode cX2_often 23 = .ok (.iload_n 2, 1) := by decide +kernel
theorem dX2_often_24 : decode cX2_often 24 = .ok (.invokevirtual 200, 3) := by decide +kernel
theorem dX2_often_27 : decode cX2_often 27 = .ok (.pop2, 1) := by decide +kernel
theorem dX2_often_28 : decode cX2_often 28 = .ok (.aload_n 0, 1) := by decide +kernel
theorem dX2_often_29 : decode cX2_often 29 = .ok (.getfield 28, 3) := by decide +kernel
theorem dX2_often_32 : decode cX2_often 32 = .ok (.iload_n 1, 1) := by decide +kernel
theorem dX2_often_33 : decode cX2_often 33 = .ok (.invokevirtual 215, 3) := by decide +kernel
theorem dX2_often_36 : decode cX2_often 36 = .ok (.ireturn, 1) := by decide +kernel
set_option maxRecDepth 20000 in
theorem ggX2_fixed_X2_eligibleBits : GoodIn wsX2_fixed wsX2_eligibleBits := goodIn_r _ [11, 5, 12, 13, 14, 10, 15, 4, 16, 17, 18, 19, 20, 21, 22, 23, 105, 106, 107, 108, 109, 110, 111, 112, 113, 126, 127, 128, 129, 130, 131, 132, 133, 134, 135] (by decide +kernel) (by decide +kernel)
set_option maxRecDepth 20000 in
theorem gX2_fixed_X2_eligibleBits : GoodIn wsX2_fixed (wsV RX2 122 RX2 yX2_eligibleBits wsX2_eligibleBits) := goodIn_app (goodIn_of _ (by decide +kernel)) ggX2_fixed_X2_eligibleBits
set_option maxRecDepth 20000 in
theorem ggX2_fixed_X1_hasDay : GoodIn wsX2_fixed wsX1_hasDay := goodIn_r _ [28, 29, 22, 10, 23, 114, 115, 116, 117, 118, 119, 120, 121, 122, 123, 124, 125] (by decide +kernel) (by decide +kernel)
set_option maxRecDepth 20000 in
theorem gX2_fixed_X1_hasDay : GoodIn wsX2_fixed (wsV RX2 212 RX1 yX1_hasDay wsX1_hasDay) := goodIn_app (goodIn_of _ (by decide +kernel)) ggX2_fixed_X1_hasDay
set_option maxRecDepth 20000 in
theorem ggX2_fixed_X1_layPrices : GoodIn wsX2_fixed wsX1_layPrices := goodIn_r _ [33, 29, 34, 35, 36, 37, 27, 38, 39, 40, 41, 42, 43, 44, 45, 46, 47, 48, 49, 50, 51, 52, 53, 54, 55, 56, 57, 58, 59, 22, 10, 23, 60, 61, 62, 63, 64, 65, 66, 114, 115, 116, 117, 118, 119, 120, 121, 122, 123, 124, 125, 126, 127, 128, 129, 130, 131, 132, 133, 134, 135] (by decide +kernel) (by decide +kernel)
set_option maxRecDepth 20000 in
theorem gX2_fixed_X1_layPrices : GoodIn wsX2_fixed (wsV RX2 220 RX1 yX1_layPrices wsX1_layPrices) := goodIn_app (goodIn_of _ (by decide +kernel)) ggX2_fixed_X1_layPrices
set_option maxRecDepth 20000 in
theorem ggX2_fixed_X1_layNow : GoodIn wsX2_fixed wsX1_layNow := goodIn_r _ [70, 71, 29, 72, 73, 34, 74, 10, 75, 76, 77, 78, 51, 79, 80, 66, 81, 82, 83, 27, 84, 114, 115, 116, 117, 118, 119, 120, 121, 122, 123, 124, 125, 126, 127, 128, 129, 130, 131, 132, 133, 134, 135] (by decide +kernel) (by decide +kernel)
set_option maxRecDepth 20000 in
theorem gX2_fixed_X1_layNow : GoodIn wsX2_fixed (wsV RX2 223 RX1 yX1_layNow wsX1_layNow) := goodIn_app (goodIn_of _ (by decide +kernel)) ggX2_fixed_X1_layNow
set_option maxRecDepth 20000 in
theorem ggX2_fixed_X1_rollBack : GoodIn wsX2_fixed wsX1_rollBack := goodIn_r _ [88, 89, 90, 91, 73, 92, 93, 94, 95, 27, 96, 72, 97, 98, 99, 100, 29, 101, 102, 103, 104, 114, 115, 116, 117, 118, 119, 120, 121, 122, 123, 124, 125] (by decide +kernel) (by decide +kernel)
set_option maxRecDepth 20000 in
theorem gX2_fixed_X1_rollBack : GoodIn wsX2_fixed (wsV RX2 227 RX1 yX1_rollBack wsX1_rollBack) := goodIn_app (goodIn_of _ (by decide +kernel)) ggX2_fixed_X1_rollBack
theorem dX2_fixed_0 : decode cX2_fixed 0 = .ok (.aload_n 0, 1) := by decide +kernel
theorem dX2_fixed_1 : decode cX2_fixed 1 = .ok (.invokevirtual 122, 3) := by decide +kernel
theorem dX2_fixed_4 : decode cX2_fixed 4 = .ok (.istore_n 2, 1) := by decide +kernel
theorem dX2_fixed_5 : decode cX2_fixed 5 = .ok (.aload_n 0, 1) := by decide +kernel
theorem dX2_fixed_6 : decode cX2_fixed 6 = .ok (.getfield 28, 3) := by decide +kernel
theorem dX2_fixed_9 : decode cX2_fixed 9 = .ok (.iload_n 1, 1) := by decide +kernel
theorem dX2_fixed_10 : decode cX2_fixed 10 = .ok (.invokevirtual 212, 3) := by decide +kernel
theorem dX2_fixed_13 : decode cX2_fixed 13 = .ok (.ifCond .eq 7, 3) := by decide +kernel
theorem dX2_fixed_16 : decode cX2_fixed 16 = .ok (.iload_n 2, 1) := by decide +kernel
theorem dX2_fixed_17 : decode cX2_fixed 17 = .ok (.ifCond .ne 13, 3) := by decide +kernel
theorem dX2_fixed_20 : decode cX2_fixed 20 = .ok (.new 76, 3) := by decide +kernel
theorem dX2_fixed_23 : decode cX2_fixed 23 = .ok (.dup, 1) := by decide +kernel
theorem dX2_fixed_24 : decode cX2_fixed 24 = .ok (.ldc 218, 2) := by decide +kernel
theorem dX2_fixed_26 : decode cX2_fixed 26 = .ok (.invokespecial 80, 3) := by decide +kernel
theorem dX2_fixed_29 : decode cX2_fixed 29 = .ok (.athrow, 1) := by decide +kernel
theorem dX2_fixed_30 : decode cX2_fixed 30 = .ok (.aload_n 0, 1) := by decide +kernel
theorem dX2_fixed_31 : decode cX2_fixed 31 = .ok (.getfield 28, 3) := by decide +kernel
theorem dX2_fixed_34 : decode cX2_fixed 34 = .ok (.aload_n 0, 1) := by decide +kernel
theorem dX2_fixed_35 : decode cX2_fixed 35 = .ok (.getfield 11, 3) := by decide +kernel
theorem dX2_fixed_38 : decode cX2_fixed 38 = .ok (.aload_n 0, 1) := by decide +kernel
theorem dX2_fixed_39 : decode cX2_fixed 39 = .ok (.getfield 44, 3) := by decide +kernel
theorem dX2_fixed_42 : decode cX2_fixed 42 = .ok (.invokevirtual 220, 3) := by decide +kernel
theorem dX2_fixed_45 : decode cX2_fixed 45 = .ok (.aload_n 0, 1) := by decide +kernel
theorem dX2_fixed_46 : decode cX2_fixed 46 = .ok (.getfield 28, 3) := by decide +kernel
theorem dX2_fixed_49 : decode cX2_fixed 49 = .ok (.aload_n 0, 1) := by decide +kernel
theorem dX2_fixed_50 : decode cX2_fixed 50 = .ok (.getfield 11, 3) := by decide +kernel
theorem dX2_fixed_53 : decode cX2_fixed 53 = .ok (.iload_n 2, 1) := by decide +kernel
theorem dX2_fixed_54 : decode cX2_fixed 54 = .ok (.aload_n 0, 1) := by decide +kernel
theorem dX2_fixed_55 : decode cX2_fixed 55 = .ok (.getfield 28, 3) := by decide +kernel
theorem dX2_fixed_58 : decode cX2_fixed 58 = .ok (.getfield 141, 3) := by decide +kernel
theorem dX2_fixed_61 : decode cX2_fixed 61 = .ok (.invokevirtual 223, 3) := by decide +kernel
theorem dX2_fixed_64 : decode cX2_fixed 64 = .ok (.aload_n 0, 1) := by decide +kernel
theorem dX2_fixed_65 : decode cX2_fixed 65 = .ok (.getfield 28, 3) := by decide +kernel
theorem dX2_fixed_68 : decode cX2_fixed 68 = .ok (.iload_n 1, 1) := by decide +kernel
theorem dX2_fixed_69 : decode cX2_fixed 69 = .ok (.iconst 0, 1) := by decide +kernel
theorem dX2_fixed_70 : decode cX2_fixed 70 = .ok (.invokevirtual 227, 3) := by decide +kernel
theorem dX2_fixed_73 : decode cX2_fixed 73 = .ok (.lreturn, 1) := by decide +kernel
set_option maxRecDepth 20000 in
theorem ggX2_only_X2_has : GoodIn wsX2_only wsX2_has := goodIn_r _ [7, 8, 9, 10, 6, 11, 106, 107, 108, 109, 110, 111, 112, 113, 114] (by decide +kernel) (by decide +kernel)
set_option maxRecDepth 20000 in
theorem gX2_only_X2_has : GoodIn wsX2_only (wsV RX2 63 RX2 yX2_has wsX2_has) := goodIn_app (goodIn_of _ (by decide +kernel)) ggX2_only_X2_has
set_option maxRecDepth 20000 in
theorem ggX2_only_X2_isEligible : GoodIn wsX2_only wsX2_isEligible := goodIn_r _ [15, 16, 17, 18, 19, 20, 21, 9, 10, 6, 11, 106, 107, 108, 109, 110, 111, 112, 113, 114, 115, 116, 117, 118, 119, 120, 121, 122, 123, 124] (by decide +kernel) (by decide +kernel)
set_option maxRecDepth 20000 in
theorem gX2_only_X2_isEligible : GoodIn wsX2_only (wsV RX2 107 RX2 yX2_isEligible wsX2_isEligible) := goodIn_app (goodIn_of _ (by decide +kernel)) ggX2_only_X2_isEligible
set_option maxRecDepth 20000 in
theorem ggX2_only_X2_valueBy : GoodIn wsX2_only wsX2_valueBy := goodIn_r _ [25, 26, 16, 8, 27, 28, 29, 30, 31, 32, 33, 34, 35, 36, 37, 38, 39, 40, 41, 42, 43, 44, 45, 46, 47, 48, 49, 50, 51, 52, 53, 54, 55, 56, 57, 58, 59, 60, 10, 6, 11, 61, 62, 63, 64, 65, 66, 67, 68, 69, 70, 71, 72, 73, 74, 75, 76, 77, 78, 79, 80, 81, 82, 83, 84, 85, 86, 87, 88, 89, 90, 91, 92, 93, 94, 95, 96, 97, 98, 99, 100, 101, 102, 103, 104, 105, 106, 107, 108, 109, 110, 111, 112, 113, 114, 125, 126, 127, 128, 129, 130, 131, 132, 133, 134, 135, 136, 115, 116, 117, 118, 119, 120, 121, 122, 123, 124] (by decide +kernel) (by decide +kernel)
set_option maxRecDepth 20000 in
theorem gX2_only_X2_valueBy : GoodIn wsX2_only (wsV RX2 200 RX2 yX2_valueBy wsX2_valueBy) := goodIn_app (goodIn_of _ (by decide +kernel)) ggX2_only_X2_valueBy
theorem dX2_only_0 : decode cX2_only 0 = .ok (.aload_n 0, 1) := by decide +kernel
theorem dX2_only_1 : decode cX2_only 1 = .ok (.iload_n 1, 1) := by decide +kernel
theorem dX2_only_2 : decode cX2_only 2 = .ok (.invokevirtual 63, 3) := by decide +kernel
theorem dX2_only_5 : decode cX2_only 5 = .ok (.ifCond .eq 11, 3) := by decide +kernel
theorem dX2_only_8 : decode cX2_only 8 = .ok (.aload_n 0, 1) := by decide +kernel
theorem dX2_only_9 : decode cX2_only 9 = .ok (.iload_n 1, 1) := by decide +kernel
theorem dX2_only_10 : decode cX2_only 10 = .ok (.invokevirtual 107, 3) := by decide +kernel
theorem dX2_only_13 : decode cX2_only 13 = .ok (.ifCond .ne 13, 3) := by decide +kernel
theorem dX2_only_16 : decode cX2_only 16 = .ok (.new 76, 3) := by decide +kernel
theorem dX2_only_19 : decode cX2_only 19 = .ok (.dup, 1) := by decide +kernel
theorem dX2_only_20 : decode cX2_only 20 = .ok (.ldc 231, 2) := by decide +kernel
theorem dX2_only_22 : decode cX2_only 22 = .ok (.invokespecial 80, 3) := by decide +kernel
theorem dX2_only_25 : decode cX2_only 25 = .ok (.athrow, 1) := by decide +kernel
theorem dX2_only_26 : decode cX2_only 26 = .ok (.aload_n 0, 1) := by decide +kernel
theorem dX2_only_27 : decode cX2_only 27 = .ok (.iconst 1, 1) := by decide +kernel
theorem dX2_only_28 : decode cX2_only 28 = .ok (.iload_n 1, 1) := by decide +kernel
theorem dX2_only_29 : decode cX2_only 29 = .ok (.ishl, 1) := by decide +kernel
theorem dX2_only_30 : decode cX2_only 30 = .ok (.invokevirtual 200, 3) := by decide +kernel
theorem dX2_only_33 : decode cX2_only 33 = .ok (.lreturn, 1) := by decide +kernel
set_option maxRecDepth 20000 in
theorem ggX2_without_X2_has : GoodIn wsX2_without wsX2_has := goodIn_r _ [7, 8, 9, 10, 6, 11, 110, 111, 112, 113, 114, 115, 116, 117, 118] (by decide +kernel) (by decide +kernel)
set_option maxRecDepth 20000 in
theorem gX2_without_X2_has : GoodIn wsX2_without (wsV RX2 63 RX2 yX2_has wsX2_has) := goodIn_app (goodIn_of _ (by decide +kernel)) ggX2_without_X2_has
set_option maxRecDepth 20000 in
theorem ggX2_without_X2_isEligible : GoodIn wsX2_without wsX2_isEligible := goodIn_r _ [15, 16, 17, 18, 19, 20, 21, 9, 10, 6, 11, 110, 111, 112, 113, 114, 115, 116, 117, 118, 119, 120, 121, 122, 123, 124, 125, 126, 127, 128] (by decide +kernel) (by decide +kernel)
set_option maxRecDepth 20000 in
theorem gX2_without_X2_isEligible : GoodIn wsX2_without (wsV RX2 107 RX2 yX2_isEligible wsX2_isEligible) := goodIn_app (goodIn_of _ (by decide +kernel)) ggX2_without_X2_isEligible
set_option maxRecDepth 20000 in
theorem ggX2_without_X2_eligibleBits : GoodIn wsX2_without wsX2_eligibleBits := goodIn_r _ [25, 8, 12, 13, 14, 6, 15, 16, 17, 18, 19, 20, 21, 9, 10, 11, 110, 111, 112, 113, 114, 115, 116, 117, 118, 119, 120, 121, 122, 123, 124, 125, 126, 127, 128] (by decide +kernel) (by decide +kernel)
set_option maxRecDepth 20000 in
theorem gX2_without_X2_eligibleBits : GoodIn wsX2_without (wsV RX2 122 RX2 yX2_eligibleBits wsX2_eligibleBits) := goodIn_app (goodIn_of _ (by decide +kernel)) ggX2_without_X2_eligibleBits
set_option maxRecDepth 20000 in
theorem ggX2_without_X2_valueBy : GoodIn wsX2_without wsX2_valueBy := goodIn_r _ [29, 30, 16, 8, 31, 32, 33, 34, 35, 36, 37, 38, 39, 40, 41, 42, 43, 44, 45, 46, 47, 48, 49, 50, 51, 52, 53, 54, 55, 56, 57, 58, 59, 60, 61, 62, 63, 64, 10, 6, 11, 65, 66, 67, 68, 69, 70, 71, 72, 73, 74, 75, 76, 77, 78, 79, 80, 81, 82, 83, 84, 85, 86, 87, 88, 89, 90, 91, 92, 93, 94, 95, 96, 97, 98, 99, 100, 101, 102, 103, 104, 105, 106, 107, 108, 109, 110, 111, 112, 113, 114, 115, 116, 117, 118, 129, 130, 131, 132, 133, 134, 135, 136, 137, 138, 139, 140, 119, 120, 121, 122, 123, 124, 125, 126, 127, 128] (by decide +kernel) (by decide +kernel)
set_option maxRecDepth 20000 in
theorem gX2_without_X2_valueBy : GoodIn wsX2_without (wsV RX2 200 RX2 yX2_valueBy wsX2_valueBy) := goodIn_app (goodIn_of _ (by decide +kernel)) ggX2_without_X2_valueBy
theorem dX2_without_0 : decode cX2_without 0 = .ok (.aload_n 0, 1) := by decide +kernel
theorem dX2_without_1 : decode cX2_without 1 = .ok (.iload_n 1, 1) := by decide +kernel
theorem dX2_without_2 : decode cX2_without 2 = .ok (.invokevirtual 63, 3) := by decide +kernel
theorem dX2_without_5 : decode cX2_without 5 = .ok (.ifCond .ne 13, 3) := by decide +kernel
theorem dX2_without_8 : decode cX2_without 8 = .ok (.new 76, 3) := by decide +kernel
theorem dX2_without_11 : decode cX2_without 11 = .ok (.dup, 1) := by decide +kernel
theorem dX2_without_12 : decode cX2_without 12 = .ok (.ldc 78, 2) := by decide +kernel
theorem dX2_without_14 : decode cX2_without 14 = .ok (.invokespecial 80, 3) := by decide +kernel
theorem dX2_without_17 : decode cX2_without 17 = .ok (.athrow, 1) := by decide +kernel
theorem dX2_without_18 : decode cX2_without 18 = .ok (.aload_n 0, 1) := by decide +kernel
theorem dX2_without_19 : decode cX2_without 19 = .ok (.iload_n 1, 1) := by decide +kernel
theorem dX2_without_20 : decode cX2_without 20 = .ok (.invokevirtual 107, 3) := by decide +kernel
theorem dX2_without_23 : decode cX2_without 23 = .ok (.ifCond .ne 5, 3) := by decide +kernel
theorem dX2_without_26 : decode cX2_without 26 = .ok (.lconst 0, 1) := by decide +kernel
theorem dX2_without_27 : decode cX2_without 27 = .ok (.lreturn, 1) := by decide +kernel
theorem dX2_without_28 : decode cX2_without 28 = .ok (.aload_n 0, 1) := by decide +kernel
theorem dX2_without_29 : decode cX2_without 29 = .ok (.invokevirtual 122, 3) := by decide +kernel
theorem dX2_without_32 : decode cX2_without 32 = .ok (.istore_n 2, 1) := by decide +kernel
theorem dX2_without_33 : decode cX2_without 33 = .ok (.iload_n 2, 1) := by decide +kernel
theorem dX2_without_34 : decode cX2_without 34 = .ok (.iconst 1, 1) := by decide +kernel
theorem dX2_without_35 : decode cX2_without 35 = .ok (.iload_n 1, 1) := by decide +kernel
theorem dX2_without_36 : decode cX2_without 36 = .ok (.ishl, 1) := by decide +kernel
theorem dX2_without_37 : decode cX2_without 37 = .ok (.iconst (-1), 1) := by decide +kernel
theorem dX2_without_38 : decode cX2_without 38 = .ok (.ixor, 1) := by decide +kernel
theorem dX2_without_39 : decode cX2_without 39 = .ok (.iand, 1) := by decide +kernel
theorem dX2_without_40 : decode cX2_without 40 = .ok (.istore_n 3, 1) := by decide +kernel
theorem dX2_without_41 : decode cX2_without 41 = .ok (.iload_n 3, 1) := by decide +kernel
theorem dX2_without_42 : decode cX2_without 42 = .ok (.ifCond .ne 13, 3) := by decide +kernel
theorem dX2_without_45 : decode cX2_without 45 = .ok (.new 76, 3) := by decide +kernel
theorem dX2_without_48 : decode cX2_without 48 = .ok (.dup, 1) := by decide +kernel
theorem dX2_without_49 : decode cX2_without 49 = .ok (.ldc 233, 2) := by decide +kernel
theorem dX2_without_51 : decode cX2_without 51 = .ok (.invokespecial 80, 3) := by decide +kernel
theorem dX2_without_54 : decode cX2_without 54 = .ok (.athrow, 1) := by decide +kernel
theorem dX2_without_55 : decode cX2_without 55 = .ok (.aload_n 0, 1) := by decide +kernel
theorem dX2_without_56 : decode cX2_without 56 = .ok (.iload_n 2, 1) := by decide +kernel
theorem dX2_without_57 : decode cX2_without 57 = .ok (.invokevirtual 200, 3) := by decide +kernel
theorem dX2_without_60 : decode cX2_without 60 = .ok (.aload_n 0, 1) := by decide +kernel
theorem dX2_without_61 : decode cX2_without 61 = .ok (.iload_n 3, 1) := by decide +kernel
theorem dX2_without_62 : decode cX2_without 62 = .ok (.invokevirtual 200, 3) := by decide +kernel
theorem dX2_without_65 : decode cX2_without 65 = .ok (.lsub, 1) := by decide +kernel
theorem dX2_without_66 : decode cX2_without 66 = .ok (.lreturn, 1) := by decide +kernel
set_option maxRecDepth 20000 in
theorem ggX2_fair_X2_eligibleBits : GoodIn wsX2_fair wsX2_eligibleBits := goodIn_r _ [11, 3, 12, 13, 14, 10, 15, 2, 16, 17, 18, 19, 20, 21, 22, 23, 101, 102, 103, 104, 105, 106, 107, 108, 109, 122, 123, 124, 125, 126, 127, 128, 129, 130, 131] (by decide +kernel) (by decide +kernel)
set_option maxRecDepth 20000 in
theorem gX2_fair_X2_eligibleBits : GoodIn wsX2_fair (wsV RX2 122 RX2 yX2_eligibleBits wsX2_eligibleBits) := goodIn_app (goodIn_of _ (by decide +kernel)) ggX2_fair_X2_eligibleBits
set_option maxRecDepth 20000 in
theorem ggX2_fair_X1_layPrices : GoodIn wsX2_fair wsX1_layPrices := goodIn_r _ [28, 29, 30, 31, 32, 33, 27, 34, 35, 36, 37, 38, 39, 40, 41, 42, 43, 44, 45, 46, 47, 48, 49, 50, 51, 52, 53, 54, 55, 22, 10, 23, 56, 57, 58, 59, 60, 61, 62, 110, 111, 112, 113, 114, 115, 116, 117, 118, 119, 120, 121, 122, 123, 124, 125, 126, 127, 128, 129, 130, 131] (by decide +kernel) (by decide +kernel)
set_option maxRecDepth 20000 in
theorem gX2_fair_X1_layPrices : GoodIn wsX2_fair (wsV RX2 220 RX1 yX1_layPrices wsX1_layPrices) := goodIn_app (goodIn_of _ (by decide +kernel)) ggX2_fair_X1_layPrices
set_option maxRecDepth 20000 in
theorem ggX2_fair_X1_layNow : GoodIn wsX2_fair wsX1_layNow := goodIn_r _ [66, 67, 29, 68, 69, 30, 70, 10, 71, 72, 73, 74, 47, 75, 76, 62, 77, 78, 79, 27, 80, 110, 111, 112, 113, 114, 115, 116, 117, 118, 119, 120, 121, 122, 123, 124, 125, 126, 127, 128, 129, 130, 131] (by decide +kernel) (by decide +kernel)
set_option maxRecDepth 20000 in
theorem gX2_fair_X1_layNow : GoodIn wsX2_fair (wsV RX2 223 RX1 yX1_layNow wsX1_layNow) := goodIn_app (goodIn_of _ (by decide +kernel)) ggX2_fair_X1_layNow
set_option maxRecDepth 20000 in
theorem ggX2_fair_X1_rollBack : GoodIn wsX2_fair wsX1_rollBack := goodIn_r _ [84, 85, 86, 87, 69, 88, 89, 90, 91, 27, 92, 68, 93, 94, 95, 96, 29, 97, 98, 99, 100, 110, 111, 112, 113, 114, 115, 116, 117, 118, 119, 120, 121] (by decide +kernel) (by decide +kernel)
set_option maxRecDepth 20000 in
theorem gX2_fair_X1_rollBack : GoodIn wsX2_fair (wsV RX2 227 RX1 yX1_rollBack wsX1_rollBack) := goodIn_app (goodIn_of _ (by decide +kernel)) ggX2_fair_X1_rollBack
theorem dX2_fair_0 : decode cX2_fair 0 = .ok (.aload_n 0, 1) := by decide +kernel
theorem dX2_fair_1 : decode cX2_fair 1 = .ok (.invokevirtual 122, 3) := by decide +kernel
theorem dX2_fair_4 : decode cX2_fair 4 = .ok (.istore_n 1, 1) := by decide +kernel
theorem dX2_fair_5 : decode cX2_fair 5 = .ok (.iload_n 1, 1) := by decide +kernel
theorem dX2_fair_6 : decode cX2_fair 6 = .ok (.ifCond .ne 5, 3) := by decide +kernel
theorem dX2_fair_9 : decode cX2_fair 9 = .ok (.iconst (-1), 1) := by decide +kernel
theorem dX2_fair_10 : decode cX2_fair 10 = .ok (.ireturn, 1) := by decide +kernel
theorem dX2_fair_11 : decode cX2_fair 11 = .ok (.aload_n 0, 1) := by decide +kernel
theorem dX2_fair_12 : decode cX2_fair 12 = .ok (.getfield 28, 3) := by decide +kernel
theorem dX2_fair_15 : decode cX2_fair 15 = .ok (.aload_n 0, 1) := by decide +kernel
theorem dX2_fair_16 : decode cX2_fair 16 = .ok (.getfield 11, 3) := by decide +kernel
theorem dX2_fair_19 : decode cX2_fair 19 = .ok (.aload_n 0, 1) := by decide +kernel
theorem dX2_fair_20 : decode cX2_fair 20 = .ok (.getfield 44, 3) := by decide +kernel
theorem dX2_fair_23 : decode cX2_fair 23 = .ok (.invokevirtual 220, 3) := by decide +kernel
theorem dX2_fair_26 : decode cX2_fair 26 = .ok (.iconst (-1), 1) := by decide +kernel
theorem dX2_fair_27 : decode cX2_fair 27 = .ok (.istore_n 2, 1) := by decide +kernel
theorem dX2_fair_28 : decode cX2_fair 28 = .ok (.ldc 235, 2) := by decide +kernel
theorem dX2_fair_30 : decode cX2_fair 30 = .ok (.istore_n 3, 1) := by decide +kernel
theorem dX2_fair_31 : decode cX2_fair 31 = .ok (.iload_n 3, 1) := by decide +kernel
theorem dX2_fair_32 : decode cX2_fair 32 = .ok (.ifCond .le 57, 3) := by decide +kernel
theorem dX2_fair_35 : decode cX2_fair 35 = .ok (.iload_n 2, 1) := by decide +kernel
theorem dX2_fair_36 : decode cX2_fair 36 = .ok (.iload_n 3, 1) := by decide +kernel
theorem dX2_fair_37 : decode cX2_fair 37 = .ok (.iadd, 1) := by decide +kernel
theorem dX2_fair_38 : decode cX2_fair 38 = .ok (.ldc 184, 2) := by decide +kernel
theorem dX2_fair_40 : decode cX2_fair 40 = .ok (.if_icmp .gt 42, 3) := by decide +kernel
theorem dX2_fair_43 : decode cX2_fair 43 = .ok (.aload_n 0, 1) := by decide +kernel
theorem dX2_fair_44 : decode cX2_fair 44 = .ok (.getfield 28, 3) := by decide +kernel
theorem dX2_fair_47 : decode cX2_fair 47 = .ok (.aload_n 0, 1) := by decide +kernel
theorem dX2_fair_48 : decode cX2_fair 48 = .ok (.getfield 11, 3) := by decide +kernel
theorem dX2_fair_51 : decode cX2_fair 51 = .ok (.iload_n 1, 1) := by decide +kernel
theorem dX2_fair_52 : decode cX2_fair 52 = .ok (.iload_n 2, 1) := by decide +kernel
theorem dX2_fair_53 : decode cX2_fair 53 = .ok (.iload_n 3, 1) := by decide +kernel
theorem dX2_fair_54 : decode cX2_fair 54 = .ok (.iadd, 1) := by decide +kernel
theorem dX2_fair_55 : decode cX2_fair 55 = .ok (.invokevirtual 223, 3) := by decide +kernel
theorem dX2_fair_58 : decode cX2_fair 58 = .ok (.aload_n 0, 1) := by decide +kernel
theorem dX2_fair_59 : decode cX2_fair 59 = .ok (.getfield 28, 3) := by decide +kernel
theorem dX2_fair_62 : decode cX2_fair 62 = .ok (.aload_n 0, 1) := by decide +kernel
theorem dX2_fair_63 : decode cX2_fair 63 = .ok (.getfield 28, 3) := by decide +kernel
theorem dX2_fair_66 : decode cX2_fair 66 = .ok (.getfield 129, 3) := by decide +kernel
theorem dX2_fair_69 : decode cX2_fair 69 = .ok (.iconst 1, 1) := by decide +kernel
theorem dX2_fair_70 : decode cX2_fair 70 = .ok (.invokevirtual 227, 3) := by decide +kernel
theorem dX2_fair_73 : decode cX2_fair 73 = .ok (.lconst 0, 1) := by decide +kernel
theorem dX2_fair_74 : decode cX2_fair 74 = .ok (.lcmp, 1) := by decide +kernel
theorem dX2_fair_75 : decode cX2_fair 75 = .ok (.ifCond .ge 7, 3) := by decide +kernel
theorem dX2_fair_78 : decode cX2_fair 78 = .ok (.iload_n 2, 1) := by decide +kernel
theorem dX2_fair_79 : decode cX2_fair 79 = .ok (.iload_n 3, 1) := by decide +kernel
theorem dX2_fair_80 : decode cX2_fair 80 = .ok (.iadd, 1) := by decide +kernel
theorem dX2_fair_81 : decode cX2_fair 81 = .ok (.istore_n 2, 1) := by decide +kernel
theorem dX2_fair_82 : decode cX2_fair 82 = .ok (.iload_n 3, 1) := by decide +kernel
theorem dX2_fair_83 : decode cX2_fair 83 = .ok (.iconst 2, 1) := by decide +kernel
theorem dX2_fair_84 : decode cX2_fair 84 = .ok (.idiv, 1) := by decide +kernel
theorem dX2_fair_85 : decode cX2_fair 85 = .ok (.istore_n 3, 1) := by decide +kernel
theorem dX2_fair_86 : decode cX2_fair 86 = .ok (.goto (-55), 3) := by decide +kernel
theorem dX2_fair_89 : decode cX2_fair 89 = .ok (.iload_n 2, 1) := by decide +kernel
theorem dX2_fair_90 : decode cX2_fair 90 = .ok (.ldc 184, 2) := by decide +kernel
theorem dX2_fair_92 : decode cX2_fair 92 = .ok (.if_icmp .ne 7, 3) := by decide +kernel
theorem dX2_fair_95 : decode cX2_fair 95 = .ok (.iconst (-1), 1) := by decide +kernel
theorem dX2_fair_96 : decode cX2_fair 96 = .ok (.goto 6, 3) := by decide +kernel
theorem dX2_fair_99 : decode cX2_fair 99 = .ok (.iload_n 2, 1) := by decide +kernel
theorem dX2_fair_100 : decode cX2_fair 100 = .ok (.iconst 1, 1) := by decide +kernel
theorem dX2_fair_101 : decode cX2_fair 101 = .ok (.iadd, 1) := by decide +kernel
theorem dX2_fair_102 : decode cX2_fair 102 = .ok (.ireturn, 1) := by decide +kernel
theorem dX2_within_0 : decode cX2_within 0 = .ok (.iload_n 0, 1) := by decide +kernel
theorem dX2_within_1 : decode cX2_within 1 = .ok (.iload_n 1, 1) := by decide +kernel
theorem dX2_within_2 : decode cX2_within 2 = .ok (.if_icmp .lt 12, 3) := by decide +kernel
theorem dX2_within_5 : decode cX2_within 5 = .ok (.iload_n 0, 1) := by decide +kernel
theorem dX2_within_6 : decode cX2_within 6 = .ok (.iload_n 2, 1) := by decide +kernel
theorem dX2_within_7 : decode cX2_within 7 = .ok (.if_icmp .gt 7, 3) := by decide +kernel
theorem dX2_within_10 : decode cX2_within 10 = .ok (.iconst 1, 1) := by decide +kernel
theorem dX2_within_11 : decode cX2_within 11 = .ok (.goto 4, 3) := by decide +kernel
theorem dX2_within_14 : decode cX2_within 14 = .ok (.iconst 0, 1) := by decide +kernel
theorem dX2_within_15 : decode cX2_within 15 = .ok (.ireturn, 1) := by decide +kernel
set_option maxRecDepth 20000 in
theorem ggX2_isRate_X2_within : GoodIn wsX2_isRate wsX2_within := goodIn_r _ [4] (by decide +kernel) (by decide +kernel)
set_option maxRecDepth 20000 in
theorem gX2_isRate_X2_within : GoodIn wsX2_isRate (va_wsS RX2 47 yX2_within wsX2_within) := goodIn_app (goodIn_of _ (by decide +kernel)) ggX2_isRate_X2_within
theorem dX2_isRate_0 : decode cX2_isRate 0 = .ok (.iload_n 0, 1) := by decide +kernel
theorem dX2_isRate_1 : decode cX2_isRate 1 = .ok (.iconst 0, 1) := by decide +kernel
theorem dX2_isRate_2 : decode cX2_isRate 2 = .ok (.sipush 3000, 3) := by decide +kernel
theorem dX2_isRate_5 : decode cX2_isRate 5 = .ok (.invokestatic 47, 3) := by decide +kernel
theorem dX2_isRate_8 : decode cX2_isRate 8 = .ok (.ireturn, 1) := by decide +kernel
theorem dX2_isIn_0 : decode cX2_isIn 0 = .ok (.iload_n 0, 1) := by decide +kernel
theorem dX2_isIn_1 : decode cX2_isIn 1 = .ok (.iload_n 1, 1) := by decide +kernel
theorem dX2_isIn_2 : decode cX2_isIn 2 = .ok (.ishr, 1) := by decide +kernel
theorem dX2_isIn_3 : decode cX2_isIn 3 = .ok (.iconst 1, 1) := by decide +kernel
theorem dX2_isIn_4 : decode cX2_isIn 4 = .ok (.iand, 1) := by decide +kernel
theorem dX2_isIn_5 : decode cX2_isIn 5 = .ok (.iconst 1, 1) := by decide +kernel
theorem dX2_isIn_6 : decode cX2_isIn 6 = .ok (.if_icmp .ne 7, 3) := by decide +kernel
theorem dX2_isIn_9 : decode cX2_isIn 9 = .ok (.iconst 1, 1) := by decide +kernel
theorem dX2_isIn_10 : decode cX2_isIn 10 = .ok (.goto 4, 3) := by decide +kernel
theorem dX2_isIn_13 : decode cX2_isIn 13 = .ok (.iconst 0, 1) := by decide +kernel
theorem dX2_isIn_14 : decode cX2_isIn 14 = .ok (.ireturn, 1) := by decide +kernel
set_option maxRecDepth 20000 in
theorem ggX2_canBe_X2_within : GoodIn wsX2_canBe wsX2_within := goodIn_r _ [4] (by decide +kernel) (by decide +kernel)
set_option maxRecDepth 20000 in
theorem gX2_canBe_X2_within : GoodIn wsX2_canBe (va_wsS RX2 47 yX2_within wsX2_within) := goodIn_app (goodIn_of _ (by decide +kernel)) ggX2_canBe_X2_within
theorem dX2_canBe_0 : decode cX2_canBe 0 = .ok (.iload_n 1, 1) := by decide +kernel
theorem dX2_canBe_1 : decode cX2_canBe 1 = .ok (.iconst 0, 1) := by decide +kernel
theorem dX2_canBe_2 : decode cX2_canBe 2 = .ok (.sipush 2000, 3) := by decide +kernel
theorem dX2_canBe_5 : decode cX2_canBe 5 = .ok (.invokestatic 47, 3) := by decide +kernel
theorem dX2_canBe_8 : decode cX2_canBe 8 = .ok (.ifCond .eq 13, 3) := by decide +kernel
theorem dX2_canBe_11 : decode cX2_canBe 11 = .ok (.iload_n 2, 1) := by decide +kernel
theorem dX2_canBe_12 : decode cX2_canBe 12 = .ok (.iconst 1, 1) := by decide +kernel
theorem dX2_canBe_13 : decode cX2_canBe 13 = .ok (.bipush 40, 2) := by decide +kernel
theorem dX2_canBe_15 : decode cX2_canBe 15 = .ok (.invokestatic 47, 3) := by decide +kernel
theorem dX2_canBe_18 : decode cX2_canBe 18 = .ok (.ifCond .ne 5, 3) := by decide +kernel
theorem dX2_canBe_21 : decode cX2_canBe 21 = .ok (.iconst 0, 1) := by decide +kernel
theorem dX2_canBe_22 : decode cX2_canBe 22 = .ok (.ireturn, 1) := by decide +kernel
theorem dX2_canBe_23 : decode cX2_canBe 23 = .ok (.iload_n 0, 1) := by decide +kernel
theorem dX2_canBe_24 : decode cX2_canBe 24 = .ok (.tableswitch 71 0 3 #[32, 42, 50, 57], 32) := by decide +kernel
theorem dX2_canBe_56 : decode cX2_canBe 56 = .ok (.iload_n 3, 1) := by decide +kernel
theorem dX2_canBe_57 : decode cX2_canBe 57 = .ok (.ifCond .ne 7, 3) := by decide +kernel
theorem dX2_canBe_60 : decode cX2_canBe 60 = .ok (.iconst 1, 1) := by decide +kernel
theorem dX2_canBe_61 : decode cX2_canBe 61 = .ok (.goto 4, 3) := by decide +kernel
theorem dX2_canBe_64 : decode cX2_canBe 64 = .ok (.iconst 0, 1) := by decide +kernel
theorem dX2_canBe_65 : decode cX2_canBe 65 = .ok (.ireturn, 1) := by decide +kernel
theorem dX2_canBe_66 : decode cX2_canBe 66 = .ok (.iload_n 3, 1) := by decide +kernel
theorem dX2_canBe_67 : decode cX2_canBe 67 = .ok (.iconst 1, 1) := by decide +kernel
theorem dX2_canBe_68 : decode cX2_canBe 68 = .ok (.bipush 100, 2) := by decide +kernel
theorem dX2_canBe_70 : decode cX2_canBe 70 = .ok (.invokestatic 47, 3) := by decide +kernel
theorem dX2_canBe_73 : decode cX2_canBe 73 = .ok (.ireturn, 1) := by decide +kernel
theorem dX2_canBe_74 : decode cX2_canBe 74 = .ok (.iload_n 3, 1) := by decide +kernel
theorem dX2_canBe_75 : decode cX2_canBe 75 = .ok (.iconst 1, 1) := by decide +kernel
theorem dX2_canBe_76 : decode cX2_canBe 76 = .ok (.iload_n 2, 1) := by decide +kernel
theorem dX2_canBe_77 : decode cX2_canBe 77 = .ok (.invokestatic 47, 3) := by decide +kernel
theorem dX2_canBe_80 : decode cX2_canBe 80 = .ok (.ireturn, 1) := by decide +kernel
theorem dX2_canBe_81 : decode cX2_canBe 81 = .ok (.iload_n 3, 1) := by decide +kernel
theorem dX2_canBe_82 : decode cX2_canBe 82 = .ok (.ifCond .ne 11, 3) := by decide +kernel
theorem dX2_canBe_85 : decode cX2_canBe 85 = .ok (.iload_n 1, 1) := by decide +kernel
theorem dX2_canBe_86 : decode cX2_canBe 86 = .ok (.ifCond .ne 7, 3) := by decide +kernel
theorem dX2_canBe_89 : decode cX2_canBe 89 = .ok (.iconst 1, 1) := by decide +kernel
theorem dX2_canBe_90 : decode cX2_canBe 90 = .ok (.goto 4, 3) := by decide +kernel
theorem dX2_canBe_93 : decode cX2_canBe 93 = .ok (.iconst 0, 1) := by decide +kernel
theorem dX2_canBe_94 : decode cX2_canBe 94 = .ok (.ireturn, 1) := by decide +kernel
theorem dX2_canBe_95 : decode cX2_canBe 95 = .ok (.iconst 0, 1) := by decide +kernel
theorem dX2_canBe_96 : decode cX2_canBe 96 = .ok (.ireturn, 1) := by decide +kernel
set_option maxRecDepth 20000 in
theorem ggX2_has_X2_within : GoodIn wsX2_has wsX2_within := goodIn_r _ [5] (by decide +kernel) (by decide +kernel)
set_option maxRecDepth 20000 in
theorem gX2_has_X2_within : GoodIn wsX2_has (va_wsS RX2 47 yX2_within wsX2_within) := goodIn_app (goodIn_of _ (by decide +kernel)) ggX2_has_X2_within
theorem dX2_has_0 : decode cX2_has 0 = .ok (.iload_n 1, 1) := by decide +kernel
theorem dX2_has_1 : decode cX2_has 1 = .ok (.iconst 0, 1) := by decide +kernel
theorem dX2_has_2 : decode cX2_has 2 = .ok (.aload_n 0, 1) := by decide +kernel
theorem dX2_has_3 : decode cX2_has 3 = .ok (.getfield 44, 3) := by decide +kernel
theorem dX2_has_6 : decode cX2_has 6 = .ok (.iconst 1, 1) := by decide +kernel
theorem dX2_has_7 : decode cX2_has 7 = .ok (.isub, 1) := by decide +kernel
theorem dX2_has_8 : decode cX2_has 8 = .ok (.invokestatic 47, 3) := by decide +kernel
theorem dX2_has_11 : decode cX2_has 11 = .ok (.ireturn, 1) := by decide +kernel
set_option maxRecDepth 20000 in
theorem ggX2_isEligible_X2_within : GoodIn wsX2_isEligible wsX2_within := goodIn_r _ [10] (by decide +kernel) (by decide +kernel)
set_option maxRecDepth 20000 in
theorem gX2_isEligible_X2_within : GoodIn wsX2_isEligible (va_wsS RX2 47 yX2_within wsX2_within) := goodIn_app (goodIn_of _ (by decide +kernel)) ggX2_isEligible_X2_within
theorem dX2_isEligible_0 : decode cX2_isEligible 0 = .ok (.aload_n 0, 1) := by decide +kernel
theorem dX2_isEligible_1 : decode cX2_isEligible 1 = .ok (.getfield 11, 3) := by decide +kernel
theorem dX2_isEligible_4 : decode cX2_isEligible 4 = .ok (.iload_n 1, 1) := by decide +kernel
theorem dX2_isEligible_5 : decode cX2_isEligible 5 = .ok (.aaload, 1) := by decide +kernel
theorem dX2_isEligible_6 : decode cX2_isEligible 6 = .ok (.astore_n 2, 1) := by decide +kernel
theorem dX2_isEligible_7 : decode cX2_isEligible 7 = .ok (.aload_n 2, 1) := by decide +kernel
theorem dX2_isEligible_8 : decode cX2_isEligible 8 = .ok (.getfield 101, 3) := by decide +kernel
theorem dX2_isEligible_11 : decode cX2_isEligible 11 = .ok (.ifCond .ne 32, 3) := by decide +kernel
theorem dX2_isEligible_14 : decode cX2_isEligible 14 = .ok (.aload_n 2, 1) := by decide +kernel
theorem dX2_isEligible_15 : decode cX2_isEligible 15 = .ok (.getfield 89, 3) := by decide +kernel
theorem dX2_isEligible_18 : decode cX2_isEligible 18 = .ok (.aload_n 0, 1) := by decide +kernel
theorem dX2_isEligible_19 : decode cX2_isEligible 19 = .ok (.getfield 19, 3) := by decide +kernel
theorem dX2_isEligible_22 : decode cX2_isEligible 22 = .ok (.aload_n 0, 1) := by decide +kernel
theorem dX2_isEligible_23 : decode cX2_isEligible 23 = .ok (.getfield 22, 3) := by decide +kernel
theorem dX2_isEligible_26 : decode cX2_isEligible 26 = .ok (.invokestatic 47, 3) := by decide +kernel
theorem dX2_isEligible_29 : decode cX2_isEligible 29 = .ok (.ifCond .eq 14, 3) := by decide +kernel
theorem dX2_isEligible_32 : decode cX2_isEligible 32 = .ok (.aload_n 2, 1) := by decide +kernel
theorem dX2_isEligible_33 : decode cX2_isEligible 33 = .ok (.getfield 104, 3) := by decide +kernel
theorem dX2_isEligible_36 : decode cX2_isEligible 36 = .ok (.ifCond .le 7, 3) := by decide +kernel
theorem dX2_isEligible_39 : decode cX2_isEligible 39 = .ok (.iconst 1, 1) := by decide +kernel
theorem dX2_isEligible_40 : decode cX2_isEligible 40 = .ok (.goto 4, 3) := by decide +kernel
theorem dX2_isEligible_43 : decode cX2_isEligible 43 = .ok (.iconst 0, 1) := by decide +kernel
theorem dX2_isEligible_44 : decode cX2_isEligible 44 = .ok (.ireturn, 1) := by decide +kernel
set_option maxRecDepth 20000 in
theorem ggX2_eligibleBits_X2_isEligible : GoodIn wsX2_eligibleBits wsX2_isEligible := goodIn_r _ [6, 7, 8, 9, 10, 11, 12, 13, 14, 5, 15, 16, 17, 18, 19, 20, 21, 22, 23, 24, 25, 26, 27, 28, 29, 30, 31, 32, 33, 34] (by decide +kernel) (by decide +kernel)
set_option maxRecDepth 20000 in
theorem gX2_eligibleBits_X2_isEligible : GoodIn wsX2_eligibleBits (wsV RX2 107 RX2 yX2_isEligible wsX2_isEligible) := goodIn_app (goodIn_of _ (by decide +kernel)) ggX2_eligibleBits_X2_isEligible
theorem dX2_eligibleBits_0 : decode cX2_eligibleBits 0 = .ok (.iconst 0, 1) := by decide +kernel
theorem dX2_eligibleBits_1 : decode cX2_eligibleBits 1 = .ok (.istore_n 1, 1) := by decide +kernel
theorem dX2_eligibleBits_2 : decode cX2_eligibleBits 2 = .ok (.iconst 0, 1) := by decide +kernel
theorem dX2_eligibleBits_3 : decode cX2_eligibleBits 3 = .ok (.istore_n 2, 1) := by decide +kernel
theorem dX2_eligibleBits_4 : decode cX2_eligibleBits 4 = .ok (.iload_n 2, 1) := by decide +kernel
theorem dX2_eligibleBits_5 : decode cX2_eligibleBits 5 = .ok (.aload_n 0, 1) := by decide +kernel
theorem dX2_eligibleBits_6 : decode cX2_eligibleBits 6 = .ok (.getfield 44, 3) := by decide +kernel
theorem dX2_eligibleBits_9 : decode cX2_eligibleBits 9 = .ok (.if_icmp .ge 23, 3) := by decide +kernel
theorem dX2_eligibleBits_12 : decode cX2_eligibleBits 12 = .ok (.aload_n 0, 1) := by decide +kernel
theorem dX2_eligibleBits_13 : decode cX2_eligibleBits 13 = .ok (.iload_n 2, 1) := by decide +kernel
theorem dX2_eligibleBits_14 : decode cX2_eligibleBits 14 = .ok (.invokevirtual 107, 3) := by decide +kernel
theorem dX2_eligibleBits_17 : decode cX2_eligibleBits 17 = .ok (.ifCond .eq 9, 3) := by decide +kernel
theorem dX2_eligibleBits_20 : decode cX2_eligibleBits 20 = .ok (.iload_n 1, 1) := by decide +kernel
theorem dX2_eligibleBits_21 : decode cX2_eligibleBits 21 = .ok (.iconst 1, 1) := by decide +kernel
theorem dX2_eligibleBits_22 : decode cX2_eligibleBits 22 = .ok (.iload_n 2, 1) := by decide +kernel
theorem dX2_eligibleBits_23 : decode cX2_eligibleBits 23 = .ok (.ishl, 1) := by decide +kernel
theorem dX2_eligibleBits_24 : decode cX2_eligibleBits 24 = .ok (.ior, 1) := by decide +kernel
theorem dX2_eligibleBits_25 : decode cX2_eligibleBits 25 = .ok (.istore_n 1, 1) := by decide +kernel
theorem dX2_eligibleBits_26 : decode cX2_eligibleBits 26 = .ok (.iinc 2 1, 3) := by decide +kernel
theorem dX2_eligibleBits_29 : decode cX2_eligibleBits 29 = .ok (.goto (-25), 3) := by decide +kernel
theorem dX2_eligibleBits_32 : decode cX2_eligibleBits 32 = .ok (.iload_n 1, 1) := by decide +kernel
theorem dX2_eligibleBits_33 : decode cX2_eligibleBits 33 = .ok (.ireturn, 1) := by decide +kernel
set_option maxRecDepth 20000 in
theorem ggX2_eligibleStock_X2_isEligible : GoodIn wsX2_eligibleStock wsX2_isEligible := goodIn_r _ [8, 2, 9, 10, 11, 12, 13, 14, 15, 7, 16, 17, 18, 19, 20, 21, 22, 23, 24, 25, 26, 27, 28, 29, 30, 31, 32, 33, 34, 35] (by decide +kernel) (by decide +kernel)
set_option maxRecDepth 20000 in
theorem gX2_eligibleStock_X2_isEligible : GoodIn wsX2_eligibleStock (wsV RX2 107 RX2 yX2_isEligible wsX2_isEligible) := goodIn_app (goodIn_of _ (by decide +kernel)) ggX2_eligibleStock_X2_isEligible
theorem dX2_eligibleStock_0 : decode cX2_eligibleStock 0 = .ok (.iconst 0, 1) := by decide +kernel
theorem dX2_eligibleStock_1 : decode cX2_eligibleStock 1 = .ok (.istore_n 1, 1) := by decide +kernel
theorem dX2_eligibleStock_2 : decode cX2_eligibleStock 2 = .ok (.iconst 0, 1) := by decide +kernel
theorem dX2_eligibleStock_3 : decode cX2_eligibleStock 3 = .ok (.istore_n 2, 1) := by decide +kernel
theorem dX2_eligibleStock_4 : decode cX2_eligibleStock 4 = .ok (.iload_n 2, 1) := by decide +kernel
theorem dX2_eligibleStock_5 : decode cX2_eligibleStock 5 = .ok (.aload_n 0, 1) := by decide +kernel
theorem dX2_eligibleStock_6 : decode cX2_eligibleStock 6 = .ok (.getfield 44, 3) := by decide +kernel
theorem dX2_eligibleStock_9 : decode cX2_eligibleStock 9 = .ok (.if_icmp .ge 29, 3) := by decide +kernel
theorem dX2_eligibleStock_12 : decode cX2_eligibleStock 12 = .ok (.aload_n 0, 1) := by decide +kernel
theorem dX2_eligibleStock_13 : decode cX2_eligibleStock 13 = .ok (.iload_n 2, 1) := by decide +kernel
theorem dX2_eligibleStock_14 : decode cX2_eligibleStock 14 = .ok (.invokevirtual 107, 3) := by decide +kernel
theorem dX2_eligibleStock_17 : decode cX2_eligibleStock 17 = .ok (.ifCond .eq 15, 3) := by decide +kernel
theorem dX2_eligibleStock_20 : decode cX2_eligibleStock 20 = .ok (.iload_n 1, 1) := by decide +kernel
theorem dX2_eligibleStock_21 : decode cX2_eligibleStock 21 = .ok (.aload_n 0, 1) := by decide +kernel
theorem dX2_eligibleStock_22 : decode cX2_eligibleStock 22 = .ok (.getfield 11, 3) := by decide +kernel
theorem dX2_eligibleStock_25 : decode cX2_eligibleStock 25 = .ok (.iload_n 2, 1) := by decide +kernel
theorem dX2_eligibleStock_26 : decode cX2_eligibleStock 26 = .ok (.aaload, 1) := by decide +kernel
theorem dX2_eligibleStock_27 : decode cX2_eligibleStock 27 = .ok (.getfield 98, 3) := by decide +kernel
theorem dX2_eligibleStock_30 : decode cX2_eligibleStock 30 = .ok (.iadd, 1) := by decide +kernel
theorem dX2_eligibleStock_31 : decode cX2_eligibleStock 31 = .ok (.istore_n 1, 1) := by decide +kernel
theorem dX2_eligibleStock_32 : decode cX2_eligibleStock 32 = .ok (.iinc 2 1, 3) := by decide +kernel
theorem dX2_eligibleStock_35 : decode cX2_eligibleStock 35 = .ok (.goto (-31), 3) := by decide +kernel
theorem dX2_eligibleStock_38 : decode cX2_eligibleStock 38 = .ok (.iload_n 1, 1) := by decide +kernel
theorem dX2_eligibleStock_39 : decode cX2_eligibleStock 39 = .ok (.ireturn, 1) := by decide +kernel
set_option maxRecDepth 20000 in
theorem ggX2_keepWorths_X2_isIn : GoodIn wsX2_keepWorths wsX2_isIn := goodIn_r _ [6] (by decide +kernel) (by decide +kernel)
set_option maxRecDepth 20000 in
theorem gX2_keepWorths_X2_isIn : GoodIn wsX2_keepWorths (va_wsS RX2 152 yX2_isIn wsX2_isIn) := goodIn_app (goodIn_of _ (by decide +kernel)) ggX2_keepWorths_X2_isIn
set_option maxRecDepth 20000 in
theorem ggX2_keepWorths_X0_keepWorths : GoodIn wsX2_keepWorths wsX0_keepWorths := goodIn_r _ [11, 12, 13, 23, 24, 25, 26, 27, 28, 29, 30, 31, 32] (by decide +kernel) (by decide +kernel)
set_option maxRecDepth 20000 in
theorem gX2_keepWorths_X0_keepWorths : GoodIn wsX2_keepWorths (wsV RX2 236 RX0 yX0_keepWorths wsX0_keepWorths) := goodIn_app (goodIn_of _ (by decide +kernel)) ggX2_keepWorths_X0_keepWorths
theorem dX2_keepWorths_0 : decode cX2_keepWorths 0 = .ok (.iconst 0, 1) := by decide +kernel
theorem dX2_keepWorths_1 : decode cX2_keepWorths 1 = .ok (.istore_n 2, 1) := by decide +kernel
theorem dX2_keepWorths_2 : decode cX2_keepWorths 2 = .ok (.iload_n 2, 1) := by decide +kernel
theorem dX2_keepWorths_3 : decode cX2_keepWorths 3 = .ok (.aload_n 0, 1) := by decide +kernel
theorem dX2_keepWorths_4 : decode cX2_keepWorths 4 = .ok (.getfield 44, 3) := by decide +kernel
theorem dX2_keepWorths_7 : decode cX2_keepWorths 7 = .ok (.if_icmp .ge 26, 3) := by decide +kernel
theorem dX2_keepWorths_10 : decode cX2_keepWorths 10 = .ok (.iload_n 1, 1) := by decide +kernel
theorem dX2_keepWorths_11 : decode cX2_keepWorths 11 = .ok (.iload_n 2, 1) := by decide +kernel
theorem dX2_keepWorths_12 : decode cX2_keepWorths 12 = .ok (.invokestatic 152, 3) := by decide +kernel
theorem dX2_keepWorths_15 : decode cX2_keepWorths 15 = .ok (.ifCond .eq 12, 3) := by decide +kernel
theorem dX2_keepWorths_18 : decode cX2_keepWorths 18 = .ok (.aload_n 0, 1) := by decide +kernel
theorem dX2_keepWorths_19 : decode cX2_keepWorths 19 = .ok (.getfield 11, 3) := by decide +kernel
theorem dX2_keepWorths_22 : decode cX2_keepWorths 22 = .ok (.iload_n 2, 1) := by decide +kernel
theorem dX2_keepWorths_23 : decode cX2_keepWorths 23 = .ok (.aaload, 1) := by decide +kernel
theorem dX2_keepWorths_24 : decode cX2_keepWorths 24 = .ok (.invokevirtual 236, 3) := by decide +kernel
theorem dX2_keepWorths_27 : decode cX2_keepWorths 27 = .ok (.iinc 2 1, 3) := by decide +kernel
theorem dX2_keepWorths_30 : decode cX2_keepWorths 30 = .ok (.goto (-28), 3) := by decide +kernel
theorem dX2_keepWorths_33 : decode cX2_keepWorths 33 = .ok (.return_, 1) := by decide +kernel
set_option maxRecDepth 20000 in
theorem ggX2_layPrices_X2_isIn : GoodIn wsX2_layPrices wsX2_isIn := goodIn_r _ [7] (by decide +kernel) (by decide +kernel)
set_option maxRecDepth 20000 in
theorem gX2_layPrices_X2_isIn : GoodIn wsX2_layPrices (va_wsS RX2 152 yX2_isIn wsX2_isIn) := goodIn_app (goodIn_of _ (by decide +kernel)) ggX2_layPrices_X2_isIn
set_option maxRecDepth 20000 in
theorem ggX2_layPrices_X0_priceAt : GoodIn wsX2_layPrices wsX0_priceAt := goodIn_r _ [12, 13, 14, 15, 16, 17, 18, 19, 20, 11, 21, 22, 23, 6, 24, 25, 26, 27, 28, 29, 30, 31, 41, 42, 43, 44, 45, 46, 47, 48, 49, 50] (by decide +kernel) (by decide +kernel)
set_option maxRecDepth 20000 in
theorem gX2_layPrices_X0_priceAt : GoodIn wsX2_layPrices (wsV RX2 118 RX0 yX0_priceAt wsX0_priceAt) := goodIn_app (goodIn_of _ (by decide +kernel)) ggX2_layPrices_X0_priceAt
theorem dX2_layPrices_0 : decode cX2_layPrices 0 = .ok (.iconst 0, 1) := by decide +kernel
theorem dX2_layPrices_1 : decode cX2_layPrices 1 = .ok (.istore_n 3, 1) := by decide +kernel
theorem dX2_layPrices_2 : decode cX2_layPrices 2 = .ok (.iload_n 3, 1) := by decide +kernel
theorem dX2_layPrices_3 : decode cX2_layPrices 3 = .ok (.aload_n 0, 1) := by decide +kernel
theorem dX2_layPrices_4 : decode cX2_layPrices 4 = .ok (.getfield 44, 3) := by decide +kernel
theorem dX2_layPrices_7 : decode cX2_layPrices 7 = .ok (.if_icmp .ge 33, 3) := by decide +kernel
theorem dX2_layPrices_10 : decode cX2_layPrices 10 = .ok (.iload_n 2, 1) := by decide +kernel
theorem dX2_layPrices_11 : decode cX2_layPrices 11 = .ok (.iload_n 3, 1) := by decide +kernel
theorem dX2_layPrices_12 : decode cX2_layPrices 12 = .ok (.invokestatic 152, 3) := by decide +kernel
theorem dX2_layPrices_15 : decode cX2_layPrices 15 = .ok (.ifCond .eq 19, 3) := by decide +kernel
theorem dX2_layPrices_18 : decode cX2_layPrices 18 = .ok (.aload_n 0, 1) := by decide +kernel
theorem dX2_layPrices_19 : decode cX2_layPrices 19 = .ok (.getfield 32, 3) := by decide +kernel
theorem dX2_layPrices_22 : decode cX2_layPrices 22 = .ok (.iload_n 3, 1) := by decide +kernel
theorem dX2_layPrices_23 : decode cX2_layPrices 23 = .ok (.aload_n 0, 1) := by decide +kernel
theorem dX2_layPrices_24 : decode cX2_layPrices 24 = .ok (.getfield 11, 3) := by decide +kernel
theorem dX2_layPrices_27 : decode cX2_layPrices 27 = .ok (.iload_n 3, 1) := by decide +kernel
theorem dX2_layPrices_28 : decode cX2_layPrices 28 = .ok (.aaload, 1) := by decide +kernel
theorem dX2_layPrices_29 : decode cX2_layPrices 29 = .ok (.iload_n 1, 1) := by decide +kernel
theorem dX2_layPrices_30 : decode cX2_layPrices 30 = .ok (.invokevirtual 118, 3) := by decide +kernel
theorem dX2_layPrices_33 : decode cX2_layPrices 33 = .ok (.iastore, 1) := by decide +kernel
theorem dX2_layPrices_34 : decode cX2_layPrices 34 = .ok (.iinc 3 1, 3) := by decide +kernel
theorem dX2_layPrices_37 : decode cX2_layPrices 37 = .ok (.goto (-35), 3) := by decide +kernel
theorem dX2_layPrices_40 : decode cX2_layPrices 40 = .ok (.return_, 1) := by decide +kernel
theorem dX2_comesAhead_0 : decode cX2_comesAhead 0 = .ok (.aload_n 0, 1) := by decide +kernel
theorem dX2_comesAhead_1 : decode cX2_comesAhead 1 = .ok (.getfield 32, 3) := by decide +kernel
theorem dX2_comesAhead_4 : decode cX2_comesAhead 4 = .ok (.iload_n 1, 1) := by decide +kernel
theorem dX2_comesAhead_5 : decode cX2_comesAhead 5 = .ok (.iaload, 1) := by decide +kernel
theorem dX2_comesAhead_6 : decode cX2_comesAhead 6 = .ok (.i2l, 1) := by decide +kernel
theorem dX2_comesAhead_7 : decode cX2_comesAhead 7 = .ok (.aload_n 0, 1) := by decide +kernel
theorem dX2_comesAhead_8 : decode cX2_comesAhead 8 = .ok (.getfield 11, 3) := by decide +kernel
theorem dX2_comesAhead_11 : decode cX2_comesAhead 11 = .ok (.iload_n 2, 1) := by decide +kernel
theorem dX2_comesAhead_12 : decode cX2_comesAhead 12 = .ok (.aaload, 1) := by decide +kernel
theorem dX2_comesAhead_13 : decode cX2_comesAhead 13 = .ok (.getfield 104, 3) := by decide +kernel
theorem dX2_comesAhead_16 : decode cX2_comesAhead 16 = .ok (.i2l, 1) := by decide +kernel
theorem dX2_comesAhead_17 : decode cX2_comesAhead 17 = .ok (.lmul, 1) := by decide +kernel
theorem dX2_comesAhead_18 : decode cX2_comesAhead 18 = .ok (.lstore_n 3, 1) := by decide +kernel
theorem dX2_comesAhead_19 : decode cX2_comesAhead 19 = .ok (.aload_n 0, 1) := by decide +kernel
theorem dX2_comesAhead_20 : decode cX2_comesAhead 20 = .ok (.getfield 32, 3) := by decide +kernel
theorem dX2_comesAhead_23 : decode cX2_comesAhead 23 = .ok (.iload_n 2, 1) := by decide +kernel
theorem dX2_comesAhead_24 : decode cX2_comesAhead 24 = .ok (.iaload, 1) := by decide +kernel
theorem dX2_comesAhead_25 : decode cX2_comesAhead 25 = .ok (.i2l, 1) := by decide +kernel
theorem dX2_comesAhead_26 : decode cX2_comesAhead 26 = .ok (.aload_n 0, 1) := by decide +kernel
theorem dX2_comesAhead_27 : decode cX2_comesAhead 27 = .ok (.getfield 11, 3) := by decide +kernel
theorem dX2_comesAhead_30 : decode cX2_comesAhead 30 = .ok (.iload_n 1, 1) := by decide +kernel
theorem dX2_comesAhead_31 : decode cX2_comesAhead 31 = .ok (.aaload, 1) := by decide +kernel
theorem dX2_comesAhead_32 : decode cX2_comesAhead 32 = .ok (.getfield 104, 3) := by decide +kernel
theorem dX2_comesAhead_35 : decode cX2_comesAhead 35 = .ok (.i2l, 1) := by decide +kernel
theorem dX2_comesAhead_36 : decode cX2_comesAhead 36 = .ok (.lmul, 1) := by decide +kernel
theorem dX2_comesAhead_37 : decode cX2_comesAhead 37 = .ok (.lstore 5, 2) := by decide +kernel
theorem dX2_comesAhead_39 : decode cX2_comesAhead 39 = .ok (.lload_n 3, 1) := by decide +kernel
theorem dX2_comesAhead_40 : decode cX2_comesAhead 40 = .ok (.lload 5, 2) := by decide +kernel
theorem dX2_comesAhead_42 : decode cX2_comesAhead 42 = .ok (.lcmp, 1) := by decide +kernel
theorem dX2_comesAhead_43 : decode cX2_comesAhead 43 = .ok (.ifCond .lt 15, 3) := by decide +kernel
theorem dX2_comesAhead_46 : decode cX2_comesAhead 46 = .ok (.lload_n 3, 1) := by decide +kernel
theorem dX2_comesAhead_47 : decode cX2_comesAhead 47 = .ok (.lload 5, 2) := by decide +kernel
theorem dX2_comesAhead_49 : decode cX2_comesAhead 49 = .ok (.lcmp, 1) := by decide +kernel
theorem dX2_comesAhead_50 : decode cX2_comesAhead 50 = .ok (.ifCond .ne 12, 3) := by decide +kernel
theorem dX2_comesAhead_53 : decode cX2_comesAhead 53 = .ok (.iload_n 1, 1) := by decide +kernel
theorem dX2_comesAhead_54 : decode cX2_comesAhead 54 = .ok (.iload_n 2, 1) := by decide +kernel
theorem dX2_comesAhead_55 : decode cX2_comesAhead 55 = .ok (.if_icmp .ge 7, 3) := by decide +kernel
theorem dX2_comesAhead_58 : decode cX2_comesAhead 58 = .ok (.iconst 1, 1) := by decide +kernel
theorem dX2_comesAhead_59 : decode cX2_comesAhead 59 = .ok (.goto 4, 3) := by decide +kernel
theorem dX2_comesAhead_62 : decode cX2_comesAhead 62 = .ok (.iconst 0, 1) := by decide +kernel
theorem dX2_comesAhead_63 : decode cX2_comesAhead 63 = .ok (.ireturn, 1) := by decide +kernel
set_option maxRecDepth 20000 in
theorem ggX2_howManyAhead_X2_isIn : GoodIn wsX2_howManyAhead wsX2_isIn := goodIn_r _ [5] (by decide +kernel) (by decide +kernel)
set_option maxRecDepth 20000 in
theorem gX2_howManyAhead_X2_isIn : GoodIn wsX2_howManyAhead (va_wsS RX2 152 yX2_isIn wsX2_isIn) := goodIn_app (goodIn_of _ (by decide +kernel)) ggX2_howManyAhead_X2_isIn
set_option maxRecDepth 20000 in
theorem ggX2_howManyAhead_X2_comesAhead : GoodIn wsX2_howManyAhead wsX2_comesAhead := goodIn_r _ [9, 10, 11, 12, 13, 14, 15, 16, 17, 18, 19, 20, 21, 22, 23, 24, 25, 26, 27, 28, 29, 30, 31] (by decide +kernel) (by decide +kernel)
set_option maxRecDepth 20000 in
theorem gX2_howManyAhead_X2_comesAhead : GoodIn wsX2_howManyAhead (wsV RX2 238 RX2 yX2_comesAhead wsX2_comesAhead) := goodIn_app (goodIn_of _ (by decide +kernel)) ggX2_howManyAhead_X2_comesAhead
theorem dX2_howManyAhead_0 : decode cX2_howManyAhead 0 = .ok (.iconst 0, 1) := by decide +kernel
theorem dX2_howManyAhead_1 : decode cX2_howManyAhead 1 = .ok (.istore_n 3, 1) := by decide +kernel
theorem dX2_howManyAhead_2 : decode cX2_howManyAhead 2 = .ok (.iconst 0, 1) := by decide +kernel
theorem dX2_howManyAhead_3 : decode cX2_howManyAhead 3 = .ok (.istore 4, 2) := by decide +kernel
theorem dX2_howManyAhead_5 : decode cX2_howManyAhead 5 = .ok (.iload 4, 2) := by decide +kernel
theorem dX2_howManyAhead_7 : decode cX2_howManyAhead 7 = .ok (.aload_n 0, 1) := by decide +kernel
theorem dX2_howManyAhead_8 : decode cX2_howManyAhead 8 = .ok (.getfield 44, 3) := by decide +kernel
theorem dX2_howManyAhead_11 : decode cX2_howManyAhead 11 = .ok (.if_icmp .ge 31, 3) := by decide +kernel
theorem dX2_howManyAhead_14 : decode cX2_howManyAhead 14 = .ok (.iload_n 2, 1) := by decide +kernel
theorem dX2_howManyAhead_15 : decode cX2_howManyAhead 15 = .ok (.iload 4, 2) := by decide +kernel
theorem dX2_howManyAhead_17 : decode cX2_howManyAhead 17 = .ok (.invokestatic 152, 3) := by decide +kernel
theorem dX2_howManyAhead_20 : decode cX2_howManyAhead 20 = .ok (.ifCond .eq 16, 3) := by decide +kernel
theorem dX2_howManyAhead_23 : decode cX2_howManyAhead 23 = .ok (.aload_n 0, 1) := by decide +kernel
theorem dX2_howManyAhead_24 : decode cX2_howManyAhead 24 = .ok (.iload 4, 2) := by decide +kernel
theorem dX2_howManyAhead_26 : decode cX2_howManyAhead 26 = .ok (.iload_n 1, 1) := by decide +kernel
theorem dX2_howManyAhead_27 : decode cX2_howManyAhead 27 = .ok (.invokevirtual 238, 3) := by decide +kernel
theorem dX2_howManyAhead_30 : decode cX2_howManyAhead 30 = .ok (.ifCond .eq 6, 3) := by decide +kernel
theorem dX2_howManyAhead_33 : decode cX2_howManyAhead 33 = .ok (.iinc 3 1, 3) := by decide +kernel
theorem dX2_howManyAhead_36 : decode cX2_howManyAhead 36 = .ok (.iinc 4 1, 3) := by decide +kernel
theorem dX2_howManyAhead_39 : decode cX2_howManyAhead 39 = .ok (.goto (-34), 3) := by decide +kernel
theorem dX2_howManyAhead_42 : decode cX2_howManyAhead 42 = .ok (.iload_n 3, 1) := by decide +kernel
theorem dX2_howManyAhead_43 : decode cX2_howManyAhead 43 = .ok (.ireturn, 1) := by decide +kernel
set_option maxRecDepth 20000 in
theorem ggX2_cheapestAt_X2_layPrices : GoodIn wsX2_cheapestAt wsX2_layPrices := goodIn_r _ [6, 1, 7, 8, 9, 10, 5, 11, 12, 13, 14, 15, 16, 17, 18, 19, 20, 21, 22, 23, 24, 25, 26, 27, 28, 29, 30, 31, 32, 33, 34, 35, 41, 42, 43, 44, 45, 46, 47, 48, 49, 50, 51, 52, 53, 54, 55, 56, 57, 58, 59] (by decide +kernel) (by decide +kernel)
set_option maxRecDepth 20000 in
theorem gX2_cheapestAt_X2_layPrices : GoodIn wsX2_cheapestAt (wsV RX2 148 RX2 yX2_layPrices wsX2_layPrices) := goodIn_app (goodIn_of _ (by decide +kernel)) ggX2_cheapestAt_X2_layPrices
set_option maxRecDepth 20000 in
theorem ggX2_cheapestAt_X2_isIn : GoodIn wsX2_cheapestAt wsX2_isIn := goodIn_r _ [11] (by decide +kernel) (by decide +kernel)
set_option maxRecDepth 20000 in
theorem gX2_cheapestAt_X2_isIn : GoodIn wsX2_cheapestAt (va_wsS RX2 152 yX2_isIn wsX2_isIn) := goodIn_app (goodIn_of _ (by decide +kernel)) ggX2_cheapestAt_X2_isIn
set_option maxRecDepth 20000 in
theorem ggX2_cheapestAt_X2_comesAhead : GoodIn wsX2_cheapestAt wsX2_comesAhead := goodIn_r _ [39, 7, 8, 40, 41, 42, 43, 44, 45, 46, 47, 48, 49, 50, 51, 52, 53, 54, 55, 56, 57, 58, 59] (by decide +kernel) (by decide +kernel)
set_option maxRecDepth 20000 in
theorem gX2_cheapestAt_X2_comesAhead : GoodIn wsX2_cheapestAt (wsV RX2 238 RX2 yX2_comesAhead wsX2_comesAhead) := goodIn_app (goodIn_of _ (by decide +kernel)) ggX2_cheapestAt_X2_comesAhead
theorem dX2_cheapestAt_0 : decode cX2_cheapestAt 0 = .ok (.aload_n 0, 1) := by decide +kernel
theorem dX2_cheapestAt_1 : decode cX2_cheapestAt 1 = .ok (.iload_n 1, 1) := by decide +kernel
theorem dX2_cheapestAt_2 : decode cX2_cheapestAt 2 = .ok (.iload_n 2, 1) := by decide +kernel
theorem dX2_cheapestAt_3 : decode cX2_cheapestAt 3 = .ok (.invokevirtual 148, 3) := by decide +kernel
theorem dX2_cheapestAt_6 : decode cX2_cheapestAt 6 = .ok (.iconst (-1), 1) := by decide +kernel
theorem dX2_cheapestAt_7 : decode cX2_cheapestAt 7 = .ok (.istore_n 3, 1) := by decide +kernel
theorem dX2_cheapestAt_8 : decode cX2_cheapestAt 8 = .ok (.iconst 0, 1) := by decide +kernel
theorem dX2_cheapestAt_9 : decode cX2_cheapestAt 9 = .ok (.istore 4, 2) := by decide +kernel
theorem dX2_cheapestAt_11 : decode cX2_cheapestAt 11 = .ok (.iload 4, 2) := by decide +kernel
theorem dX2_cheapestAt_13 : decode cX2_cheapestAt 13 = .ok (.aload_n 0, 1) := by decide +kernel
theorem dX2_cheapestAt_14 : decode cX2_cheapestAt 14 = .ok (.getfield 44, 3) := by decide +kernel
theorem dX2_cheapestAt_17 : decode cX2_cheapestAt 17 = .ok (.if_icmp .ge 36, 3) := by decide +kernel
theorem dX2_cheapestAt_20 : decode cX2_cheapestAt 20 = .ok (.iload_n 2, 1) := by decide +kernel
theorem dX2_cheapestAt_21 : decode cX2_cheapestAt 21 = .ok (.iload 4, 2) := by decide +kernel
theorem dX2_cheapestAt_23 : decode cX2_cheapestAt 23 = .ok (.invokestatic 152, 3) := by decide +kernel
theorem dX2_cheapestAt_26 : decode cX2_cheapestAt 26 = .ok (.ifCond .eq 21, 3) := by decide +kernel
theorem dX2_cheapestAt_29 : decode cX2_cheapestAt 29 = .ok (.iload_n 3, 1) := by decide +kernel
theorem dX2_cheapestAt_30 : decode cX2_cheapestAt 30 = .ok (.iconst (-1), 1) := by decide +kernel
theorem dX2_cheapestAt_31 : decode cX2_cheapestAt 31 = .ok (.if_icmp .eq 13, 3) := by decide +kernel
theorem dX2_cheapestAt_34 : decode cX2_cheapestAt 34 = .ok (.aload_n 0, 1) := by decide +kernel
theorem dX2_cheapestAt_35 : decode cX2_cheapestAt 35 = .ok (.iload 4, 2) := by decide +kernel
theorem dX2_cheapestAt_37 : decode cX2_cheapestAt 37 = .ok (.iload_n 3, 1) := by decide +kernel
theorem dX2_cheapestAt_38 : decode cX2_cheapestAt 38 = .ok (.invokevirtual 238, 3) := by decide +kernel
theorem dX2_cheapestAt_41 : decode cX2_cheapestAt 41 = .ok (.ifCond .eq 6, 3) := by decide +kernel
theorem dX2_cheapestAt_44 : decode cX2_cheapestAt 44 = .ok (.iload 4, 2) := by decide +kernel
theorem dX2_cheapestAt_46 : decode cX2_cheapestAt 46 = .ok (.istore_n 3, 1) := by decide +kernel
theorem dX2_cheapestAt_47 : decode cX2_cheapestAt 47 = .ok (.iinc 4 1, 3) := by decide +kernel
theorem dX2_cheapestAt_50 : decode cX2_cheapestAt 50 = .ok (.goto (-39), 3) := by decide +kernel
theorem dX2_cheapestAt_53 : decode cX2_cheapestAt 53 = .ok (.iload_n 3, 1) := by decide +kernel
theorem dX2_cheapestAt_54 : decode cX2_cheapestAt 54 = .ok (.ireturn, 1) := by decide +kernel
set_option maxRecDepth 20000 in
theorem ggX2_markAt_X2_cheapestAt : GoodIn wsX2_markAt wsX2_cheapestAt := goodIn_r _ [10, 11, 12, 13, 14, 9, 15, 4, 1, 16, 17, 18, 19, 20, 21, 22, 23, 24, 25, 26, 27, 28, 29, 30, 31, 32, 33, 34, 35, 36, 37, 38, 39, 40, 41, 42, 43, 44, 45, 46, 2, 47, 48, 49, 50, 51, 52, 53, 54, 55, 56, 57, 58, 59, 60, 61, 62, 63, 64, 65] (by decide +kernel) (by decide +kernel)
set_option maxRecDepth 20000 in
theorem gX2_markAt_X2_cheapestAt : GoodIn wsX2_markAt (wsV RX2 144 RX2 yX2_cheapestAt wsX2_cheapestAt) := goodIn_app (goodIn_of _ (by decide +kernel)) ggX2_markAt_X2_cheapestAt
theorem dX2_markAt_0 : decode cX2_markAt 0 = .ok (.aload_n 0, 1) := by decide +kernel
theorem dX2_markAt_1 : decode cX2_markAt 1 = .ok (.iload_n 1, 1) := by decide +kernel
theorem dX2_markAt_2 : decode cX2_markAt 2 = .ok (.iload_n 2, 1) := by decide +kernel
theorem dX2_markAt_3 : decode cX2_markAt 3 = .ok (.invokevirtual 144, 3) := by decide +kernel
theorem dX2_markAt_6 : decode cX2_markAt 6 = .ok (.istore_n 3, 1) := by decide +kernel
theorem dX2_markAt_7 : decode cX2_markAt 7 = .ok (.iload_n 3, 1) := by decide +kernel
theorem dX2_markAt_8 : decode cX2_markAt 8 = .ok (.iconst (-1), 1) := by decide +kernel
theorem dX2_markAt_9 : decode cX2_markAt 9 = .ok (.if_icmp .eq 15, 3) := by decide +kernel
theorem dX2_markAt_12 : decode cX2_markAt 12 = .ok (.aload_n 0, 1) := by decide +kernel
theorem dX2_markAt_13 : decode cX2_markAt 13 = .ok (.getfield 11, 3) := by decide +kernel
theorem dX2_markAt_16 : decode cX2_markAt 16 = .ok (.iload_n 3, 1) := by decide +kernel
theorem dX2_markAt_17 : decode cX2_markAt 17 = .ok (.aaload, 1) := by decide +kernel
theorem dX2_markAt_18 : decode cX2_markAt 18 = .ok (.getfield 104, 3) := by decide +kernel
theorem dX2_markAt_21 : decode cX2_markAt 21 = .ok (.ifCond .gt 7, 3) := by decide +kernel
theorem dX2_markAt_24 : decode cX2_markAt 24 = .ok (.ldc2_w 163, 3) := by decide +kernel
theorem dX2_markAt_27 : decode cX2_markAt 27 = .ok (.lreturn, 1) := by decide +kernel
theorem dX2_markAt_28 : decode cX2_markAt 28 = .ok (.aload_n 0, 1) := by decide +kernel
theorem dX2_markAt_29 : decode cX2_markAt 29 = .ok (.getfield 32, 3) := by decide +kernel
theorem dX2_markAt_32 : decode cX2_markAt 32 = .ok (.iload_n 3, 1) := by decide +kernel
theorem dX2_markAt_33 : decode cX2_markAt 33 = .ok (.iaload, 1) := by decide +kernel
theorem dX2_markAt_34 : decode cX2_markAt 34 = .ok (.i2l, 1) := by decide +kernel
theorem dX2_markAt_35 : decode cX2_markAt 35 = .ok (.ldc2_w 241, 3) := by decide +kernel
theorem dX2_markAt_38 : decode cX2_markAt 38 = .ok (.lmul, 1) := by decide +kernel
theorem dX2_markAt_39 : decode cX2_markAt 39 = .ok (.aload_n 0, 1) := by decide +kernel
theorem dX2_markAt_40 : decode cX2_markAt 40 = .ok (.getfield 11, 3) := by decide +kernel
theorem dX2_markAt_43 : decode cX2_markAt 43 = .ok (.iload_n 3, 1) := by decide +kernel
theorem dX2_markAt_44 : decode cX2_markAt 44 = .ok (.aaload, 1) := by decide +kernel
theorem dX2_markAt_45 : decode cX2_markAt 45 = .ok (.getfield 104, 3) := by decide +kernel
theorem dX2_markAt_48 : decode cX2_markAt 48 = .ok (.i2l, 1) := by decide +kernel
theorem dX2_markAt_49 : decode cX2_markAt 49 = .ok (.ldiv, 1) := by decide +kernel
theorem dX2_markAt_50 : decode cX2_markAt 50 = .ok (.lreturn, 1) := by decide +kernel
set_option maxRecDepth 20000 in
theorem ggX2_canAsk_X2_within : GoodIn wsX2_canAsk wsX2_within := goodIn_r _ [5] (by decide +kernel) (by decide +kernel)
set_option maxRecDepth 20000 in
theorem gX2_canAsk_X2_within : GoodIn wsX2_canAsk (va_wsS RX2 47 yX2_within wsX2_within) := goodIn_app (goodIn_of _ (by decide +kernel)) ggX2_canAsk_X2_within
set_option maxRecDepth 20000 in
theorem ggX2_canAsk_X2_isRate : GoodIn wsX2_canAsk wsX2_isRate := goodIn_r _ [8, 2, 3, 4, 5] (by decide +kernel) (by decide +kernel)
set_option maxRecDepth 20000 in
theorem gX2_canAsk_X2_isRate : GoodIn wsX2_canAsk (va_wsS RX2 115 yX2_isRate wsX2_isRate) := goodIn_app (goodIn_of _ (by decide +kernel)) ggX2_canAsk_X2_isRate
theorem dX2_canAsk_0 : decode cX2_canAsk 0 = .ok (.iload_n 0, 1) := by decide +kernel
theorem dX2_canAsk_1 : decode cX2_canAsk 1 = .ok (.iconst 0, 1) := by decide +kernel
theorem dX2_canAsk_2 : decode cX2_canAsk 2 = .ok (.sipush 200, 3) := by decide +kernel
theorem dX2_canAsk_5 : decode cX2_canAsk 5 = .ok (.invokestatic 47, 3) := by decide +kernel
theorem dX2_canAsk_8 : decode cX2_canAsk 8 = .ok (.ifCond .eq 24, 3) := by decide +kernel
theorem dX2_canAsk_11 : decode cX2_canAsk 11 = .ok (.iload_n 1, 1) := by decide +kernel
theorem dX2_canAsk_12 : decode cX2_canAsk 12 = .ok (.invokestatic 115, 3) := by decide +kernel
theorem dX2_canAsk_15 : decode cX2_canAsk 15 = .ok (.ifCond .eq 17, 3) := by decide +kernel
theorem dX2_canAsk_18 : decode cX2_canAsk 18 = .ok (.iload_n 2, 1) := by decide +kernel
theorem dX2_canAsk_19 : decode cX2_canAsk 19 = .ok (.iconst 0, 1) := by decide +kernel
theorem dX2_canAsk_20 : decode cX2_canAsk 20 = .ok (.ldc 184, 2) := by decide +kernel
theorem dX2_canAsk_22 : decode cX2_canAsk 22 = .ok (.invokestatic 47, 3) := by decide +kernel
theorem dX2_canAsk_25 : decode cX2_canAsk 25 = .ok (.ifCond .eq 7, 3) := by decide +kernel
theorem dX2_canAsk_28 : decode cX2_canAsk 28 = .ok (.iconst 1, 1) := by decide +kernel
theorem dX2_canAsk_29 : decode cX2_canAsk 29 = .ok (.goto 4, 3) := by decide +kernel
theorem dX2_canAsk_32 : decode cX2_canAsk 32 = .ok (.iconst 0, 1) := by decide +kernel
theorem dX2_canAsk_33 : decode cX2_canAsk 33 = .ok (.ireturn, 1) := by decide +kernel
set_option maxRecDepth 20000 in
theorem ggX2_takeCheapest_X2_eligibleBits : GoodIn wsX2_takeCheapest wsX2_eligibleBits := goodIn_r _ [14, 2, 15, 16, 17, 13, 18, 4, 19, 20, 21, 22, 23, 24, 25, 26, 64, 65, 66, 67, 68, 69, 70, 71, 72, 73, 74, 75, 76, 77, 78, 79, 80, 81, 82] (by decide +kernel) (by decide +kernel)
set_option maxRecDepth 20000 in
theorem gX2_takeCheapest_X2_eligibleBits : GoodIn wsX2_takeCheapest (wsV RX2 122 RX2 yX2_eligibleBits wsX2_eligibleBits) := goodIn_app (goodIn_of _ (by decide +kernel)) ggX2_takeCheapest_X2_eligibleBits
set_option maxRecDepth 20000 in
theorem ggX2_takeCheapest_J7_fill_53178 : GoodIn wsX2_takeCheapest wsJ7_fill_53178 := goodIn_r _ [30] (by decide +kernel) (by decide +kernel)
set_option maxRecDepth 20000 in
theorem gX2_takeCheapest_J7_fill_53178 : GoodIn wsX2_takeCheapest (va_wsS RX2 243 yJ7_fill_53178 wsJ7_fill_53178) := goodIn_app (goodIn_of _ (by decide +kernel)) ggX2_takeCheapest_J7_fill_53178
set_option maxRecDepth 20000 in
theorem ggX2_takeCheapest_X0_priceAt : GoodIn wsX2_takeCheapest wsX0_priceAt := goodIn_r _ [35, 36, 37, 38, 8, 39, 40, 41, 42, 34, 43, 44, 25, 13, 26, 45, 46, 47, 48, 49, 50, 51, 73, 74, 75, 76, 77, 78, 79, 80, 81, 82] (by decide +kernel) (by decide +kernel)
set_option maxRecDepth 20000 in
theorem gX2_takeCheapest_X0_priceAt : GoodIn wsX2_takeCheapest (wsV RX2 118 RX0 yX0_priceAt wsX0_priceAt) := goodIn_app (goodIn_of _ (by decide +kernel)) ggX2_takeCheapest_X0_priceAt
set_option maxRecDepth 20000 in
theorem ggX2_takeCheapest_X0_invoiceBy : GoodIn wsX2_takeCheapest wsX0_invoiceBy := goodIn_r _ [55, 56, 51, 73, 74, 75, 76, 77, 78, 79, 80, 81, 82] (by decide +kernel) (by decide +kernel)
set_option maxRecDepth 20000 in
theorem gX2_takeCheapest_X0_invoiceBy : GoodIn wsX2_takeCheapest (wsV RX2 167 RX0 yX0_invoiceBy wsX0_invoiceBy) := goodIn_app (goodIn_of _ (by decide +kernel)) ggX2_takeCheapest_X0_invoiceBy
set_option maxRecDepth 20000 in
theorem ggX2_takeCheapest_X2_leastCost : GoodIn wsX2_takeCheapest wsX2_leastCost := goodIn_r _ [60, 2, 3, 61, 62, 13, 63, 64, 65, 66, 67, 68, 69, 70, 71, 72] (by decide +kernel) (by decide +kernel)
set_option maxRecDepth 20000 in
theorem gX2_takeCheapest_X2_leastCost : GoodIn wsX2_takeCheapest (wsV RX2 249 RX2 yX2_leastCost wsX2_leastCost) := goodIn_app (goodIn_of _ (by decide +kernel)) ggX2_takeCheapest_X2_leastCost
theorem dX2_takeCheapest_0 : decode cX2_takeCheapest 0 = .ok (.aload_n 0, 1) := by decide +kernel
theorem dX2_takeCheapest_1 : decode cX2_takeCheapest 1 = .ok (.invokevirtual 122, 3) := by decide +kernel
theorem dX2_takeCheapest_4 : decode cX2_takeCheapest 4 = .ok (.istore 4, 2) := by decide +kernel
theorem dX2_takeCheapest_6 : decode cX2_takeCheapest 6 = .ok (.aload_n 0, 1) := by decide +kernel
theorem dX2_takeCheapest_7 : decode cX2_takeCheapest 7 = .ok (.getfield 40, 3) := by decide +kernel
theorem dX2_takeCheapest_10 : decode cX2_takeCheapest 10 = .ok (.iconst 0, 1) := by decide +kernel
theorem dX2_takeCheapest_11 : decode cX2_takeCheapest 11 = .ok (.invokestatic 243, 3) := by decide +kernel
theorem dX2_takeCheapest_14 : decode cX2_takeCheapest 14 = .ok (.iconst 0, 1) := by decide +kernel
theorem dX2_takeCheapest_15 : decode cX2_takeCheapest 15 = .ok (.istore 5, 2) := by decide +kernel
theorem dX2_takeCheapest_17 : decode cX2_takeCheapest 17 = .ok (.iload 5, 2) := by decide +kernel
theorem dX2_takeCheapest_19 : decode cX2_takeCheapest 19 = .ok (.aload_n 0, 1) := by decide +kernel
theorem dX2_takeCheapest_20 : decode cX2_takeCheapest 20 = .ok (.getfield 44, 3) := by decide +kernel
theorem dX2_takeCheapest_23 : decode cX2_takeCheapest 23 = .ok (.if_icmp .ge 41, 3) := by decide +kernel
theorem dX2_takeCheapest_26 : decode cX2_takeCheapest 26 = .ok (.aload_n 0, 1) := by decide +kernel
theorem dX2_takeCheapest_27 : decode cX2_takeCheapest 27 = .ok (.getfield 36, 3) := by decide +kernel
theorem dX2_takeCheapest_30 : decode cX2_takeCheapest 30 = .ok (.iload 5, 2) := by decide +kernel
theorem dX2_takeCheapest_32 : decode cX2_takeCheapest 32 = .ok (.aload_n 0, 1) := by decide +kernel
theorem dX2_takeCheapest_33 : decode cX2_takeCheapest 33 = .ok (.getfield 11, 3) := by decide +kernel
theorem dX2_takeCheapest_36 : decode cX2_takeCheapest 36 = .ok (.iload 5, 2) := by decide +kernel
theorem dX2_takeCheapest_38 : decode cX2_takeCheapest 38 = .ok (.aaload, 1) := by decide +kernel
theorem dX2_takeCheapest_39 : decode cX2_takeCheapest 39 = .ok (.iload_n 2, 1) := by decide +kernel
theorem dX2_takeCheapest_40 : decode cX2_takeCheapest 40 = .ok (.invokevirtual 118, 3) := by decide +kernel
theorem dX2_takeCheapest_43 : decode cX2_takeCheapest 43 = .ok (.i2l, 1) := by decide +kernel
theorem dX2_takeCheapest_44 : decode cX2_takeCheapest 44 = .ok (.aload_n 0, 1) := by decide +kernel
theorem dX2_takeCheapest_45 : decode cX2_takeCheapest 45 = .ok (.getfield 11, 3) := by decide +kernel
theorem dX2_takeCheapest_48 : decode cX2_takeCheapest 48 = .ok (.iload 5, 2) := by decide +kernel
theorem dX2_takeCheapest_50 : decode cX2_takeCheapest 50 = .ok (.aaload, 1) := by decide +kernel
theorem dX2_takeCheapest_51 : decode cX2_takeCheapest 51 = .ok (.iload_n 3, 1) := by decide +kernel
theorem dX2_takeCheapest_52 : decode cX2_takeCheapest 52 = .ok (.i2l, 1) := by decide +kernel
theorem dX2_takeCheapest_53 : decode cX2_takeCheapest 53 = .ok (.invokevirtual 167, 3) := by decide +kernel
theorem dX2_takeCheapest_56 : decode cX2_takeCheapest 56 = .ok (.lsub, 1) := by decide +kernel
theorem dX2_takeCheapest_57 : decode cX2_takeCheapest 57 = .ok (.lastore, 1) := by decide +kernel
theorem dX2_takeCheapest_58 : decode cX2_takeCheapest 58 = .ok (.iinc 5 1, 3) := by decide +kernel
theorem dX2_takeCheapest_61 : decode cX2_takeCheapest 61 = .ok (.goto (-44), 3) := by decide +kernel
theorem dX2_takeCheapest_64 : decode cX2_takeCheapest 64 = .ok (.iload_n 1, 1) := by decide +kernel
theorem dX2_takeCheapest_65 : decode cX2_takeCheapest 65 = .ok (.istore 5, 2) := by decide +kernel
theorem dX2_takeCheapest_67 : decode cX2_takeCheapest 67 = .ok (.iconst 0, 1) := by decide +kernel
theorem dX2_takeCheapest_68 : decode cX2_takeCheapest 68 = .ok (.istore 6, 2) := by decide +kernel
theorem dX2_takeCheapest_70 : decode cX2_takeCheapest 70 = .ok (.iload 6, 2) := by decide +kernel
theorem dX2_takeCheapest_72 : decode cX2_takeCheapest 72 = .ok (.aload_n 0, 1) := by decide +kernel
theorem dX2_takeCheapest_73 : decode cX2_takeCheapest 73 = .ok (.getfield 44, 3) := by decide +kernel
theorem dX2_takeCheapest_76 : decode cX2_takeCheapest 76 = .ok (.if_icmp .ge 73, 3) := by decide +kernel
theorem dX2_takeCheapest_79 : decode cX2_takeCheapest 79 = .ok (.iload 4, 2) := by decide +kernel
theorem dX2_takeCheapest_81 : decode cX2_takeCheapest 81 = .ok (.ifCond .eq 68, 3) := by decide +kernel
theorem dX2_takeCheapest_84 : decode cX2_takeCheapest 84 = .ok (.aload_n 0, 1) := by decide +kernel
theorem dX2_takeCheapest_85 : decode cX2_takeCheapest 85 = .ok (.iload 4, 2) := by decide +kernel
theorem dX2_takeCheapest_87 : decode cX2_takeCheapest 87 = .ok (.invokevirtual 249, 3) := by decide +kernel
theorem dX2_takeCheapest_90 : decode cX2_takeCheapest 90 = .ok (.istore 7, 2) := by decide +kernel
theorem dX2_takeCheapest_92 : decode cX2_takeCheapest 92 = .ok (.iload 7, 2) := by decide +kernel
theorem dX2_takeCheapest_94 : decode cX2_takeCheapest 94 = .ok (.iconst (-1), 1) := by decide +kernel
theorem dX2_takeCheapest_95 : decode cX2_takeCheapest 95 = .ok (.if_icmp .eq 48, 3) := by decide +kernel
theorem dX2_takeCheapest_98 : decode cX2_takeCheapest 98 = .ok (.aload_n 0, 1) := by decide +kernel
theorem dX2_takeCheapest_99 : decode cX2_takeCheapest 99 = .ok (.getfield 40, 3) := by decide +kernel
theorem dX2_takeCheapest_102 : decode cX2_takeCheapest 102 = .ok (.iload 7, 2) := by decide +kernel
theorem dX2_takeCheapest_104 : decode cX2_takeCheapest 104 = .ok (.iload 5, 2) := by decide +kernel
theorem dX2_takeCheapest_106 : decode cX2_takeCheapest 106 = .ok (.aload_n 0, 1) := by decide +kernel
theorem dX2_takeCheapest_107 : decode cX2_takeCheapest 107 = .ok (.getfield 11, 3) := by decide +kernel
theorem dX2_takeCheapest_110 : decode cX2_takeCheapest 110 = .ok (.iload 7, 2) := by decide +kernel
theorem dX2_takeCheapest_112 : decode cX2_takeCheapest 112 = .ok (.aaload, 1) := by decide +kernel
theorem dX2_takeCheapest_113 : decode cX2_takeCheapest 113 = .ok (.getfield 98, 3) := by decide +kernel
theorem dX2_takeCheapest_116 : decode cX2_takeCheapest 116 = .ok (.invokestatic 252, 3) := by decide +kernel
theorem dX2_takeCheapest_119 : decode cX2_takeCheapest 119 = .ok (.iastore, 1) := by decide +kernel
theorem dX2_takeCheapest_120 : decode cX2_takeCheapest 120 = .ok (.iload 5, 2) := by decide +kernel
theorem dX2_takeCheapest_122 : decode cX2_takeCheapest 122 = .ok (.aload_n 0, 1) := by decide +kernel
theorem dX2_takeCheapest_123 : decode cX2_takeCheapest 123 = .ok (.getfield 40, 3) := by decide +kernel
theorem dX2_takeCheapest_126 : decode cX2_takeCheapest 126 = .ok (.iload 7, 2) := by decide +kernel
theorem dX2_takeCheapest_128 : decode cX2_takeCheapest 128 = .ok (.iaload, 1) := by decide +kernel
theorem dX2_takeCheapest_129 : decode cX2_takeCheapest 129 = .ok (.isub, 1) := by decide +kernel
theorem dX2_takeCheapest_130 : decode cX2_takeCheapest 130 = .ok (.istore 5, 2) := by decide +kernel
theorem dX2_takeCheapest_132 : decode cX2_takeCheapest 132 = .ok (.iload 4, 2) := by decide +kernel
theorem dX2_takeCheapest_134 : decode cX2_takeCheapest 134 = .ok (.iconst 1, 1) := by decide +kernel
theorem dX2_takeCheapest_135 : decode cX2_takeCheapest 135 = .ok (.iload 7, 2) := by decide +kernel
theorem dX2_takeCheapest_137 : decode cX2_takeCheapest 137 = .ok (.ishl, 1) := by decide +kernel
theorem dX2_takeCheapest_138 : decode cX2_takeCheapest 138 = .ok (.iconst (-1), 1) := by decide +kernel
theorem dX2_takeCheapest_139 : decode cX2_takeCheapest 139 = .ok (.ixor, 1) := by decide +kernel
theorem dX2_takeCheapest_140 : decode cX2_takeCheapest 140 = .ok (.iand, 1) := by decide +kernel
theorem dX2_takeCheapest_141 : decode cX2_takeCheapest 141 = .ok (.istore 4, 2) := by decide +kernel
theorem dX2_takeCheapest_143 : decode cX2_takeCheapest 143 = .ok (.iinc 6 1, 3) := by decide +kernel
theorem dX2_takeCheapest_146 : decode cX2_takeCheapest 146 = .ok (.goto (-76), 3) := by decide +kernel
theorem dX2_takeCheapest_149 : decode cX2_takeCheapest 149 = .ok (.iload 5, 2) := by decide +kernel
theorem dX2_takeCheapest_151 : decode cX2_takeCheapest 151 = .ok (.ifCond .ne 7, 3) := by decide +kernel
theorem dX2_takeCheapest_154 : decode cX2_takeCheapest 154 = .ok (.iconst 1, 1) := by decide +kernel
theorem dX2_takeCheapest_155 : decode cX2_takeCheapest 155 = .ok (.goto 4, 3) := by decide +kernel
theorem dX2_takeCheapest_158 : decode cX2_takeCheapest 158 = .ok (.iconst 0, 1) := by decide +kernel
theorem dX2_takeCheapest_159 : decode cX2_takeCheapest 159 = .ok (.ireturn, 1) := by decide +kernel
set_option maxRecDepth 20000 in
theorem ggX2_leastCost_X2_isIn : GoodIn wsX2_leastCost wsX2_isIn := goodIn_r _ [6] (by decide +kernel) (by decide +kernel)
set_option maxRecDepth 20000 in
theorem gX2_leastCost_X2_isIn : GoodIn wsX2_leastCost (va_wsS RX2 152 yX2_isIn wsX2_isIn) := goodIn_app (goodIn_of _ (by decide +kernel)) ggX2_leastCost_X2_isIn
theorem dX2_leastCost_0 : decode cX2_leastCost 0 = .ok (.iconst (-1), 1) := by decide +kernel
theorem dX2_leastCost_1 : decode cX2_leastCost 1 = .ok (.istore_n 2, 1) := by decide +kernel
theorem dX2_leastCost_2 : decode cX2_leastCost 2 = .ok (.iconst 0, 1) := by decide +kernel
theorem dX2_leastCost_3 : decode cX2_leastCost 3 = .ok (.istore_n 3, 1) := by decide +kernel
theorem dX2_leastCost_4 : decode cX2_leastCost 4 = .ok (.iload_n 3, 1) := by decide +kernel
theorem dX2_leastCost_5 : decode cX2_leastCost 5 = .ok (.aload_n 0, 1) := by decide +kernel
theorem dX2_leastCost_6 : decode cX2_leastCost 6 = .ok (.getfield 44, 3) := by decide +kernel
theorem dX2_leastCost_9 : decode cX2_leastCost 9 = .ok (.if_icmp .ge 40, 3) := by decide +kernel
theorem dX2_leastCost_12 : decode cX2_leastCost 12 = .ok (.iload_n 1, 1) := by decide +kernel
theorem dX2_leastCost_13 : decode cX2_leastCost 13 = .ok (.iload_n 3, 1) := by decide +kernel
theorem dX2_leastCost_14 : decode cX2_leastCost 14 = .ok (.invokestatic 152, 3) := by decide +kernel
theorem dX2_leastCost_17 : decode cX2_leastCost 17 = .ok (.ifCond .eq 26, 3) := by decide +kernel
theorem dX2_leastCost_20 : decode cX2_leastCost 20 = .ok (.iload_n 2, 1) := by decide +kernel
theorem dX2_leastCost_21 : decode cX2_leastCost 21 = .ok (.iconst (-1), 1) := by decide +kernel
theorem dX2_leastCost_22 : decode cX2_leastCost 22 = .ok (.if_icmp .eq 19, 3) := by decide +kernel
theorem dX2_leastCost_25 : decode cX2_leastCost 25 = .ok (.aload_n 0, 1) := by decide +kernel
theorem dX2_leastCost_26 : decode cX2_leastCost 26 = .ok (.getfield 36, 3) := by decide +kernel
theorem dX2_leastCost_29 : decode cX2_leastCost 29 = .ok (.iload_n 3, 1) := by decide +kernel
theorem dX2_leastCost_30 : decode cX2_leastCost 30 = .ok (.laload, 1) := by decide +kernel
theorem dX2_leastCost_31 : decode cX2_leastCost 31 = .ok (.aload_n 0, 1) := by decide +kernel
theorem dX2_leastCost_32 : decode cX2_leastCost 32 = .ok (.getfield 36, 3) := by decide +kernel
theorem dX2_leastCost_35 : decode cX2_leastCost 35 = .ok (.iload_n 2, 1) := by decide +kernel
theorem dX2_leastCost_36 : decode cX2_leastCost 36 = .ok (.laload, 1) := by decide +kernel
theorem dX2_leastCost_37 : decode cX2_leastCost 37 = .ok (.lcmp, 1) := by decide +kernel
theorem dX2_leastCost_38 : decode cX2_leastCost 38 = .ok (.ifCond .ge 5, 3) := by decide +kernel
theorem dX2_leastCost_41 : decode cX2_leastCost 41 = .ok (.iload_n 3, 1) := by decide +kernel
theorem dX2_leastCost_42 : decode cX2_leastCost 42 = .ok (.istore_n 2, 1) := by decide +kernel
theorem dX2_leastCost_43 : decode cX2_leastCost 43 = .ok (.iinc 3 1, 3) := by decide +kernel
theorem dX2_leastCost_46 : decode cX2_leastCost 46 = .ok (.goto (-42), 3) := by decide +kernel
theorem dX2_leastCost_49 : decode cX2_leastCost 49 = .ok (.iload_n 2, 1) := by decide +kernel
theorem dX2_leastCost_50 : decode cX2_leastCost 50 = .ok (.ireturn, 1) := by decide +kernel
set_option maxRecDepth 20000 in
theorem ggX2_valueBy_X1_layPrices : GoodIn wsX2_valueBy wsX1_layPrices := goodIn_r _ [10, 11, 12, 13, 14, 15, 9, 16, 17, 18, 19, 20, 21, 22, 23, 24, 25, 26, 27, 28, 29, 30, 31, 32, 33, 34, 35, 36, 37, 38, 39, 40, 41, 42, 43, 44, 45, 46, 47, 95, 96, 97, 98, 99, 100, 101, 102, 103, 104, 105, 106, 107, 108, 109, 110, 111, 112, 113, 114, 115, 116] (by decide +kernel) (by decide +kernel)
set_option maxRecDepth 20000 in
theorem gX2_valueBy_X1_layPrices : GoodIn wsX2_valueBy (wsV RX2 220 RX1 yX1_layPrices wsX1_layPrices) := goodIn_app (goodIn_of _ (by decide +kernel)) ggX2_valueBy_X1_layPrices
set_option maxRecDepth 20000 in
theorem ggX2_valueBy_X1_layNow : GoodIn wsX2_valueBy wsX1_layNow := goodIn_r _ [51, 52, 11, 53, 54, 12, 55, 39, 56, 57, 58, 59, 29, 60, 61, 47, 62, 63, 64, 9, 65, 95, 96, 97, 98, 99, 100, 101, 102, 103, 104, 105, 106, 107, 108, 109, 110, 111, 112, 113, 114, 115, 116] (by decide +kernel) (by decide +kernel)
set_option maxRecDepth 20000 in
theorem gX2_valueBy_X1_layNow : GoodIn wsX2_valueBy (wsV RX2 223 RX1 yX1_layNow wsX1_layNow) := goodIn_app (goodIn_of _ (by decide +kernel)) ggX2_valueBy_X1_layNow
set_option maxRecDepth 20000 in
theorem ggX2_valueBy_X1_rollBack : GoodIn wsX2_valueBy wsX1_rollBack := goodIn_r _ [69, 70, 71, 72, 54, 73, 74, 75, 76, 9, 77, 53, 78, 79, 80, 81, 11, 82, 83, 84, 85, 95, 96, 97, 98, 99, 100, 101, 102, 103, 104, 105, 106] (by decide +kernel) (by decide +kernel)
set_option maxRecDepth 20000 in
theorem gX2_valueBy_X1_rollBack : GoodIn wsX2_valueBy (wsV RX2 227 RX1 yX1_rollBack wsX1_rollBack) := goodIn_app (goodIn_of _ (by decide +kernel)) ggX2_valueBy_X1_rollBack
theorem dX2_valueBy_0 : decode cX2_valueBy 0 = .ok (.aload_n 0, 1) := by decide +kernel
theorem dX2_valueBy_1 : decode cX2_valueBy 1 = .ok (.getfield 28, 3) := by decide +kernel
theorem dX2_valueBy_4 : decode cX2_valueBy 4 = .ok (.aload_n 0, 1) := by decide +kernel
theorem dX2_valueBy_5 : decode cX2_valueBy 5 = .ok (.getfield 11, 3) := by decide +kernel
theorem dX2_valueBy_8 : decode cX2_valueBy 8 = .ok (.aload_n 0, 1) := by decide +kernel
theorem dX2_valueBy_9 : decode cX2_valueBy 9 = .ok (.getfield 44, 3) := by decide +kernel
theorem dX2_valueBy_12 : decode cX2_valueBy 12 = .ok (.invokevirtual 220, 3) := by decide +kernel
theorem dX2_valueBy_15 : decode cX2_valueBy 15 = .ok (.aload_n 0, 1) := by decide +kernel
theorem dX2_valueBy_16 : decode cX2_valueBy 16 = .ok (.getfield 28, 3) := by decide +kernel
theorem dX2_valueBy_19 : decode cX2_valueBy 19 = .ok (.aload_n 0, 1) := by decide +kernel
theorem dX2_valueBy_20 : decode cX2_valueBy 20 = .ok (.getfield 11, 3) := by decide +kernel
theorem dX2_valueBy_23 : decode cX2_valueBy 23 = .ok (.iload_n 1, 1) := by decide +kernel
theorem dX2_valueBy_24 : decode cX2_valueBy 24 = .ok (.aload_n 0, 1) := by decide +kernel
theorem dX2_valueBy_25 : decode cX2_valueBy 25 = .ok (.getfield 28, 3) := by decide +kernel
theorem dX2_valueBy_28 : decode cX2_valueBy 28 = .ok (.getfield 141, 3) := by decide +kernel
theorem dX2_valueBy_31 : decode cX2_valueBy 31 = .ok (.invokevirtual 223, 3) := by decide +kernel
theorem dX2_valueBy_34 : decode cX2_valueBy 34 = .ok (.aload_n 0, 1) := by decide +kernel
theorem dX2_valueBy_35 : decode cX2_valueBy 35 = .ok (.getfield 28, 3) := by decide +kernel
theorem dX2_valueBy_38 : decode cX2_valueBy 38 = .ok (.aload_n 0, 1) := by decide +kernel
theorem dX2_valueBy_39 : decode cX2_valueBy 39 = .ok (.getfield 28, 3) := by decide +kernel
theorem dX2_valueBy_42 : decode cX2_valueBy 42 = .ok (.getfield 129, 3) := by decide +kernel
theorem dX2_valueBy_45 : decode cX2_valueBy 45 = .ok (.iconst 1, 1) := by decide +kernel
theorem dX2_valueBy_46 : decode cX2_valueBy 46 = .ok (.invokevirtual 227, 3) := by decide +kernel
theorem dX2_valueBy_49 : decode cX2_valueBy 49 = .ok (.lreturn, 1) := by decide +kernel
theorem dX3_init_0 : decode cX3_init 0 = .ok (.aload_n 0, 1) := by decide +kernel
theorem dX3_init_1 : decode cX3_init 1 = .ok (.invokespecial 1, 3) := by decide +kernel
theorem dX3_init_4 : decode cX3_init 4 = .ok (.aload_n 0, 1) := by decide +kernel
theorem dX3_init_5 : decode cX3_init 5 = .ok (.bipush 56, 2) := by decide +kernel
theorem dX3_init_7 : decode cX3_init 7 = .ok (.newarray .int, 2) := by decide +kernel
theorem dX3_init_9 : decode cX3_init 9 = .ok (.putfield 7, 3) := by decide +kernel
theorem dX3_init_12 : decode cX3_init 12 = .ok (.aload_n 0, 1) := by decide +kernel
theorem dX3_init_13 : decode cX3_init 13 = .ok (.sipush 600, 3) := by decide +kernel
theorem dX3_init_16 : decode cX3_init 16 = .ok (.putfield 13, 3) := by decide +kernel
theorem dX3_init_19 : decode cX3_init 19 = .ok (.aload_n 0, 1) := by decide +kernel
theorem dX3_init_20 : decode cX3_init 20 = .ok (.iconst 1, 1) := by decide +kernel
theorem dX3_init_21 : decode cX3_init 21 = .ok (.putfield 17, 3) := by decide +kernel
theorem dX3_init_24 : decode cX3_init 24 = .ok (.aload_n 0, 1) := by decide +kernel
theorem dX3_init_25 : decode cX3_init 25 = .ok (.bipush 40, 2) := by decide +kernel
theorem dX3_init_27 : decode cX3_init 27 = .ok (.putfield 20, 3) := by decide +kernel
theorem dX3_init_30 : decode cX3_init 30 = .ok (.aload_n 0, 1) := by decide +kernel
theorem dX3_init_31 : decode cX3_init 31 = .ok (.sipush 600, 3) := by decide +kernel
theorem dX3_init_34 : decode cX3_init 34 = .ok (.putfield 23, 3) := by decide +kernel
theorem dX3_init_37 : decode cX3_init 37 = .ok (.aload_n 0, 1) := by decide +kernel
theorem dX3_init_38 : decode cX3_init 38 = .ok (.bipush 10, 2) := by decide +kernel
theorem dX3_init_40 : decode cX3_init 40 = .ok (.putfield 26, 3) := by decide +kernel
theorem dX3_init_43 : decode cX3_init 43 = .ok (.aload_n 0, 1) := by decide +kernel
theorem dX3_init_44 : decode cX3_init 44 = .ok (.ldc 29, 2) := by decide +kernel
theorem dX3_init_46 : decode cX3_init 46 = .ok (.putfield 30, 3) := by decide +kernel
theorem dX3_init_49 : decode cX3_init 49 = .ok (.aload_n 0, 1) := by decide +kernel
theorem dX3_init_50 : decode cX3_init 50 = .ok (.iconst (-1), 1) := by decide +kernel
theorem dX3_init_51 : decode cX3_init 51 = .ok (.putfield 33, 3) := by decide +kernel
theorem dX3_init_54 : decode cX3_init 54 = .ok (.aload_n 0, 1) := by decide +kernel
theorem dX3_init_55 : decode cX3_init 55 = .ok (.iconst (-1), 1) := by decide +kernel
theorem dX3_init_56 : decode cX3_init 56 = .ok (.putfield 36, 3) := by decide +kernel
theorem dX3_init_59 : decode cX3_init 59 = .ok (.aload_n 0, 1) := by decide +kernel
theorem dX3_init_60 : decode cX3_init 60 = .ok (.bipush 8, 2) := by decide +kernel
theorem dX3_init_62 : decode cX3_init 62 = .ok (.newarray .int, 2) := by decide +kernel
theorem dX3_init_64 : decode cX3_init 64 = .ok (.putfield 39, 3) := by decide +kernel
theorem dX3_init_67 : decode cX3_init 67 = .ok (.aload_n 0, 1) := by decide +kernel
theorem dX3_init_68 : decode cX3_init 68 = .ok (.bipush 8, 2) := by decide +kernel
theorem dX3_init_70 : decode cX3_init 70 = .ok (.newarray .long, 2) := by decide +kernel
theorem dX3_init_72 : decode cX3_init 72 = .ok (.putfield 42, 3) := by decide +kernel
theorem dX3_init_75 : decode cX3_init 75 = .ok (.aload_n 0, 1) := by decide +kernel
theorem dX3_init_76 : decode cX3_init 76 = .ok (.sipush 441, 3) := by decide +kernel
theorem dX3_init_79 : decode cX3_init 79 = .ok (.newarray .long, 2) := by decide +kernel
theorem dX3_init_81 : decode cX3_init 81 = .ok (.putfield 46, 3) := by decide +kernel
theorem dX3_init_84 : decode cX3_init 84 = .ok (.aload_n 0, 1) := by decide +kernel
theorem dX3_init_85 : decode cX3_init 85 = .ok (.sipush 441, 3) := by decide +kernel
theorem dX3_init_88 : decode cX3_init 88 = .ok (.newarray .long, 2) := by decide +kernel
theorem dX3_init_90 : decode cX3_init 90 = .ok (.putfield 49, 3) := by decide +kernel
theorem dX3_init_93 : decode cX3_init 93 = .ok (.aload_n 0, 1) := by decide +kernel
theorem dX3_init_94 : decode cX3_init 94 = .ok (.sipush 441, 3) := by decide +kernel
theorem dX3_init_97 : decode cX3_init 97 = .ok (.newarray .long, 2) := by decide +kernel
theorem dX3_init_99 : decode cX3_init 99 = .ok (.putfield 52, 3) := by decide +kernel
theorem dX3_init_102 : decode cX3_init 102 = .ok (.aload_n 0, 1) := by decide +kernel
theorem dX3_init_103 : decode cX3_init 103 = .ok (.sipush 441, 3) := by decide +kernel
theorem dX3_init_106 : decode cX3_init 106 = .ok (.newarray .int, 2) := by decide +kernel
theorem dX3_init_108 : decode cX3_init 108 = .ok (.putfield 55, 3) := by decide +kernel
theorem dX3_init_111 : decode cX3_init 111 = .ok (.aload_n 0, 1) := by decide +kernel
theorem dX3_init_112 : decode cX3_init 112 = .ok (.sipush 441, 3) := by decide +kernel
theorem dX3_init_115 : decode cX3_init 115 = .ok (.newarray .int, 2) := by decide +kernel
theorem dX3_init_117 : decode cX3_init 117 = .ok (.putfield 58, 3) := by decide +kernel
theorem dX3_init_120 : decode cX3_init 120 = .ok (.return_, 1) := by decide +kernel
theorem dX3_thrown_0 : decode cX3_thrown 0 = .ok (.aload_n 0, 1) := by decide +kernel
theorem dX3_thrown_1 : decode cX3_thrown 1 = .ok (.getfield 61, 3) := by decide +kernel
theorem dX3_thrown_4 : decode cX3_thrown 4 = .ok (.ireturn, 1) := by decide +kernel
theorem dX3_isIn_0 : decode cX3_isIn 0 = .ok (.lload_n 0, 1) := by decide +kernel
theorem dX3_isIn_1 : decode cX3_isIn 1 = .ok (.lload_n 2, 1) := by decide +kernel
theorem dX3_isIn_2 : decode cX3_isIn 2 = .ok (.lcmp, 1) := by decide +kernel
theorem dX3_isIn_3 : decode cX3_isIn 3 = .ok (.ifCond .lt 14, 3) := by decide +kernel
theorem dX3_isIn_6 : decode cX3_isIn 6 = .ok (.lload_n 0, 1) := by decide +kernel
theorem dX3_isIn_7 : decode cX3_isIn 7 = .ok (.lload 4, 2) := by decide +kernel
theorem dX3_isIn_9 : decode cX3_isIn 9 = .ok (.lcmp, 1) := by decide +kernel
theorem dX3_isIn_10 : decode cX3_isIn 10 = .ok (.ifCond .gt 7, 3) := by decide +kernel
theorem dX3_isIn_13 : decode cX3_isIn 13 = .ok (.iconst 1, 1) := by decide +kernel
theorem dX3_isIn_14 : decode cX3_isIn 14 = .ok (.goto 4, 3) := by decide +kernel
theorem dX3_isIn_17 : decode cX3_isIn 17 = .ok (.iconst 0, 1) := by decide +kernel
theorem dX3_isIn_18 : decode cX3_isIn 18 = .ok (.ireturn, 1) := by decide +kernel
theorem dX3_down_0 : decode cX3_down 0 = .ok (.lload_n 0, 1) := by decide +kernel
theorem dX3_down_1 : decode cX3_down 1 = .ok (.lload_n 2, 1) := by decide +kernel
theorem dX3_down_2 : decode cX3_down 2 = .ok (.ldiv, 1) := by decide +kernel
theorem dX3_down_3 : decode cX3_down 3 = .ok (.lstore 4, 2) := by decide +kernel
theorem dX3_down_5 : decode cX3_down 5 = .ok (.lload_n 0, 1) := by decide +kernel
theorem dX3_down_6 : decode cX3_down 6 = .ok (.lload_n 2, 1) := by decide +kernel
theorem dX3_down_7 : decode cX3_down 7 = .ok (.lrem, 1) := by decide +kernel
theorem dX3_down_8 : decode cX3_down 8 = .ok (.lconst 0, 1) := by decide +kernel
theorem dX3_down_9 : decode cX3_down 9 = .ok (.lcmp, 1) := by decide +kernel
theorem dX3_down_10 : decode cX3_down 10 = .ok (.ifCond .ge 10, 3) := by decide +kernel
theorem dX3_down_13 : decode cX3_down 13 = .ok (.lload 4, 2) := by decide +kernel
theorem dX3_down_15 : decode cX3_down 15 = .ok (.lconst 1, 1) := by decide +kernel
theorem dX3_down_16 : decode cX3_down 16 = .ok (.lsub, 1) := by decide +kernel
theorem dX3_down_17 : decode cX3_down 17 = .ok (.goto 5, 3) := by decide +kernel
theorem dX3_down_20 : decode cX3_down 20 = .ok (.lload 4, 2) := by decide +kernel
theorem dX3_down_22 : decode cX3_down 22 = .ok (.lreturn, 1) := by decide +kernel
theorem dX3_refuse_0 : decode cX3_refuse 0 = .ok (.aload_n 0, 1) := by decide +kernel
theorem dX3_refuse_1 : decode cX3_refuse 1 = .ok (.iconst 1, 1) := by decide +kernel
theorem dX3_refuse_2 : decode cX3_refuse 2 = .ok (.putfield 61, 3) := by decide +kernel
theorem dX3_refuse_5 : decode cX3_refuse 5 = .ok (.iconst 0, 1) := by decide +kernel
theorem dX3_refuse_6 : decode cX3_refuse 6 = .ok (.ireturn, 1) := by decide +kernel
set_option maxRecDepth 20000 in
theorem ggX3_isBond_X3_isIn : GoodIn wsX3_isBond wsX3_isIn := goodIn_r _ [5] (by decide +kernel) (by decide +kernel)
set_option maxRecDepth 20000 in
theorem gX3_isBond_X3_isIn : GoodIn wsX3_isBond (va_wsS RX3 67 yX3_isIn wsX3_isIn) := goodIn_app (goodIn_of _ (by decide +kernel)) ggX3_isBond_X3_isIn
theorem dX3_isBond_0 : decode cX3_isBond 0 = .ok (.iload_n 1, 1) := by decide +kernel
theorem dX3_isBond_1 : decode cX3_isBond 1 = .ok (.i2l, 1) := by decide +kernel
theorem dX3_isBond_2 : decode cX3_isBond 2 = .ok (.lconst 0, 1) := by decide +kernel
theorem dX3_isBond_3 : decode cX3_isBond 3 = .ok (.aload_n 0, 1) := by decide +kernel
theorem dX3_isBond_4 : decode cX3_isBond 4 = .ok (.getfield 64, 3) := by decide +kernel
theorem dX3_isBond_7 : decode cX3_isBond 7 = .ok (.iconst 1, 1) := by decide +kernel
theorem dX3_isBond_8 : decode cX3_isBond 8 = .ok (.isub, 1) := by decide +kernel
theorem dX3_isBond_9 : decode cX3_isBond 9 = .ok (.i2l, 1) := by decide +kernel
theorem dX3_isBond_10 : decode cX3_isBond 10 = .ok (.invokestatic 67, 3) := by decide +kernel
theorem dX3_isBond_13 : decode cX3_isBond 13 = .ok (.ireturn, 1) := by decide +kernel
theorem dX3_of1_0 : decode cX3_of1 0 = .ok (.aload_n 0, 1) := by decide +kernel
theorem dX3_of1_1 : decode cX3_of1 1 = .ok (.getfield 7, 3) := by decide +kernel
theorem dX3_of1_4 : decode cX3_of1 4 = .ok (.bipush 7, 2) := by decide +kernel
theorem dX3_of1_6 : decode cX3_of1 6 = .ok (.iload_n 1, 1) := by decide +kernel
theorem dX3_of1_7 : decode cX3_of1 7 = .ok (.imul, 1) := by decide +kernel
theorem dX3_of1_8 : decode cX3_of1 8 = .ok (.iload_n 2, 1) := by decide +kernel
theorem dX3_of1_9 : decode cX3_of1 9 = .ok (.iadd, 1) := by decide +kernel
theorem dX3_of1_10 : decode cX3_of1 10 = .ok (.iaload, 1) := by decide +kernel
theorem dX3_of1_11 : decode cX3_of1 11 = .ok (.ireturn, 1) := by decide +kernel
set_option maxRecDepth 20000 in
theorem ggX3_isGood_X3_isIn : GoodIn wsX3_isGood wsX3_isIn := goodIn_r _ [10] (by decide +kernel) (by decide +kernel)
set_option maxRecDepth 20000 in
theorem gX3_isGood_X3_isIn : GoodIn wsX3_isGood (va_wsS RX3 67 yX3_isIn wsX3_isIn) := goodIn_app (goodIn_of _ (by decide +kernel)) ggX3_isGood_X3_isIn
theorem dX3_isGood_0 : decode cX3_isGood 0 = .ok (.iload_n 0, 1) := by decide +kernel
theorem dX3_isGood_1 : decode cX3_isGood 1 = .ok (.i2l, 1) := by decide +kernel
theorem dX3_isGood_2 : decode cX3_isGood 2 = .ok (.lconst 0, 1) := by decide +kernel
theorem dX3_isGood_3 : decode cX3_isGood 3 = .ok (.ldc2_w 71, 3) := by decide +kernel
theorem dX3_isGood_6 : decode cX3_isGood 6 = .ok (.invokestatic 67, 3) := by decide +kernel
theorem dX3_isGood_9 : decode cX3_isGood 9 = .ok (.ifCond .eq 42, 3) := by decide +kernel
theorem dX3_isGood_12 : decode cX3_isGood 12 = .ok (.iload_n 1, 1) := by decide +kernel
theorem dX3_isGood_13 : decode cX3_isGood 13 = .ok (.i2l, 1) := by decide +kernel
theorem dX3_isGood_14 : decode cX3_isGood 14 = .ok (.lconst 0, 1) := by decide +kernel
theorem dX3_isGood_15 : decode cX3_isGood 15 = .ok (.ldc2_w 73, 3) := by decide +kernel
theorem dX3_isGood_18 : decode cX3_isGood 18 = .ok (.invokestatic 67, 3) := by decide +kernel
theorem dX3_isGood_21 : decode cX3_isGood 21 = .ok (.ifCond .eq 30, 3) := by decide +kernel
theorem dX3_isGood_24 : decode cX3_isGood 24 = .ok (.iload_n 2, 1) := by decide +kernel
theorem dX3_isGood_25 : decode cX3_isGood 25 = .ok (.i2l, 1) := by decide +kernel
theorem dX3_isGood_26 : decode cX3_isGood 26 = .ok (.lconst 1, 1) := by decide +kernel
theorem dX3_isGood_27 : decode cX3_isGood 27 = .ok (.ldc2_w 75, 3) := by decide +kernel
theorem dX3_isGood_30 : decode cX3_isGood 30 = .ok (.invokestatic 67, 3) := by decide +kernel
theorem dX3_isGood_33 : decode cX3_isGood 33 = .ok (.ifCond .eq 18, 3) := by decide +kernel
theorem dX3_isGood_36 : decode cX3_isGood 36 = .ok (.iload 4, 2) := by decide +kernel
theorem dX3_isGood_38 : decode cX3_isGood 38 = .ok (.i2l, 1) := by decide +kernel
theorem dX3_isGood_39 : decode cX3_isGood 39 = .ok (.ldc2_w 77, 3) := by decide +kernel
theorem dX3_isGood_42 : decode cX3_isGood 42 = .ok (.ldc2_w 79, 3) := by decide +kernel
theorem dX3_isGood_45 : decode cX3_isGood 45 = .ok (.invokestatic 67, 3) := by decide +kernel
theorem dX3_isGood_48 : decode cX3_isGood 48 = .ok (.ifCond .ne 5, 3) := by decide +kernel
theorem dX3_isGood_51 : decode cX3_isGood 51 = .ok (.iconst 0, 1) := by decide +kernel
theorem dX3_isGood_52 : decode cX3_isGood 52 = .ok (.ireturn, 1) := by decide +kernel
theorem dX3_isGood_53 : decode cX3_isGood 53 = .ok (.iload_n 0, 1) := by decide +kernel
theorem dX3_isGood_54 : decode cX3_isGood 54 = .ok (.iconst 1, 1) := by decide +kernel
theorem dX3_isGood_55 : decode cX3_isGood 55 = .ok (.if_icmp .ne 13, 3) := by decide +kernel
theorem dX3_isGood_58 : decode cX3_isGood 58 = .ok (.iload_n 3, 1) := by decide +kernel
theorem dX3_isGood_59 : decode cX3_isGood 59 = .ok (.i2l, 1) := by decide +kernel
theorem dX3_isGood_60 : decode cX3_isGood 60 = .ok (.lconst 1, 1) := by decide +kernel
theorem dX3_isGood_61 : decode cX3_isGood 61 = .ok (.ldc2_w 81, 3) := by decide +kernel
theorem dX3_isGood_64 : decode cX3_isGood 64 = .ok (.invokestatic 67, 3) := by decide +kernel
theorem dX3_isGood_67 : decode cX3_isGood 67 = .ok (.ireturn, 1) := by decide +kernel
theorem dX3_isGood_68 : decode cX3_isGood 68 = .ok (.iload_n 0, 1) := by decide +kernel
theorem dX3_isGood_69 : decode cX3_isGood 69 = .ok (.iconst 2, 1) := by decide +kernel
theorem dX3_isGood_70 : decode cX3_isGood 70 = .ok (.if_icmp .ne 12, 3) := by decide +kernel
theorem dX3_isGood_73 : decode cX3_isGood 73 = .ok (.iload_n 3, 1) := by decide +kernel
theorem dX3_isGood_74 : decode cX3_isGood 74 = .ok (.i2l, 1) := by decide +kernel
theorem dX3_isGood_75 : decode cX3_isGood 75 = .ok (.lconst 1, 1) := by decide +kernel
theorem dX3_isGood_76 : decode cX3_isGood 76 = .ok (.iload_n 2, 1) := by decide +kernel
theorem dX3_isGood_77 : decode cX3_isGood 77 = .ok (.i2l, 1) := by decide +kernel
theorem dX3_isGood_78 : decode cX3_isGood 78 = .ok (.invokestatic 67, 3) := by decide +kernel
theorem dX3_isGood_81 : decode cX3_isGood 81 = .ok (.ireturn, 1) := by decide +kernel
theorem dX3_isGood_82 : decode cX3_isGood 82 = .ok (.iload_n 3, 1) := by decide +kernel
theorem dX3_isGood_83 : decode cX3_isGood 83 = .ok (.ifCond .ne 15, 3) := by decide +kernel
theorem dX3_isGood_86 : decode cX3_isGood 86 = .ok (.iload_n 0, 1) := by decide +kernel
theorem dX3_isGood_87 : decode cX3_isGood 87 = .ok (.ifCond .eq 7, 3) := by decide +kernel
theorem dX3_isGood_90 : decode cX3_isGood 90 = .ok (.iload_n 1, 1) := by decide +kernel
theorem dX3_isGood_91 : decode cX3_isGood 91 = .ok (.ifCond .ne 7, 3) := by decide +kernel
theorem dX3_isGood_94 : decode cX3_isGood 94 = .ok (.iconst 1, 1) := by decide +kernel
theorem dX3_isGood_95 : decode cX3_isGood 95 = .ok (.goto 4, 3) := by decide +kernel
theorem dX3_isGood_98 : decode cX3_isGood 98 = .ok (.iconst 0, 1) := by decide +kernel
theorem dX3_isGood_99 : decode cX3_isGood 99 = .ok (.ireturn, 1) := by decide +kernel
set_option maxRecDepth 20000 in
theorem ggX3_bond_X3_isGood : GoodIn wsX3_bond wsX3_isGood := goodIn_r _ [7, 8, 9, 10, 11, 12, 13, 14, 15, 6, 16] (by decide +kernel) (by decide +kernel)
set_option maxRecDepth 20000 in
theorem gX3_bond_X3_isGood : GoodIn wsX3_bond (va_wsS RX3 83 yX3_isGood wsX3_isGood) := goodIn_app (goodIn_of _ (by decide +kernel)) ggX3_bond_X3_isGood
theorem dX3_bond_0 : decode cX3_bond 0 = .ok (.aload_n 0, 1) := by decide +kernel
theorem dX3_bond_1 : decode cX3_bond 1 = .ok (.iconst 0, 1) := by decide +kernel
theorem dX3_bond_2 : decode cX3_bond 2 = .ok (.putfield 61, 3) := by decide +kernel
theorem dX3_bond_5 : decode cX3_bond 5 = .ok (.aload_n 0, 1) := by decide +kernel
theorem dX3_bond_6 : decode cX3_bond 6 = .ok (.getfield 64, 3) := by decide +kernel
theorem dX3_bond_9 : decode cX3_bond 9 = .ok (.bipush 8, 2) := by decide +kernel
theorem dX3_bond_11 : decode cX3_bond 11 = .ok (.if_icmp .eq 16, 3) := by decide +kernel
theorem dX3_bond_14 : decode cX3_bond 14 = .ok (.iload_n 1, 1) := by decide +kernel
theorem dX3_bond_15 : decode cX3_bond 15 = .ok (.iload_n 2, 1) := by decide +kernel
theorem dX3_bond_16 : decode cX3_bond 16 = .ok (.iload_n 3, 1) := by decide +kernel
theorem dX3_bond_17 : decode cX3_bond 17 = .ok (.iload 4, 2) := by decide +kernel
theorem dX3_bond_19 : decode cX3_bond 19 = .ok (.iload 5, 2) := by decide +kernel
theorem dX3_bond_21 : decode cX3_bond 21 = .ok (.invokestatic 83, 3) := by decide +kernel
theorem dX3_bond_24 : decode cX3_bond 24 = .ok (.ifCond .ne 5, 3) := by decide +kernel
theorem dX3_bond_27 : decode cX3_bond 27 = .ok (.iconst (-1), 1) := by decide +kernel
theorem dX3_bond_28 : decode cX3_bond 28 = .ok (.ireturn, 1) := by decide +kernel
theorem dX3_bond_29 : decode cX3_bond 29 = .ok (.bipush 7, 2) := by decide +kernel
theorem dX3_bond_31 : decode cX3_bond 31 = .ok (.aload_n 0, 1) := by decide +kernel
theorem dX3_bond_32 : decode cX3_bond 32 = .ok (.getfield 64, 3) := by decide +kernel
theorem dX3_bond_35 : decode cX3_bond 35 = .ok (.imul, 1) := by decide +kernel
theorem dX3_bond_36 : decode cX3_bond 36 = .ok (.istore 6, 2) := by decide +kernel
theorem dX3_bond_38 : decode cX3_bond 38 = .ok (.aload_n 0, 1) := by decide +kernel
theorem dX3_bond_39 : decode cX3_bond 39 = .ok (.getfield 7, 3) := by decide +kernel
theorem dX3_bond_42 : decode cX3_bond 42 = .ok (.iload 6, 2) := by decide +kernel
theorem dX3_bond_44 : decode cX3_bond 44 = .ok (.iconst 0, 1) := by decide +kernel
theorem dX3_bond_45 : decode cX3_bond 45 = .ok (.iadd, 1) := by decide +kernel
theorem dX3_bond_46 : decode cX3_bond 46 = .ok (.iload_n 1, 1) := by decide +kernel
theorem dX3_bond_47 : decode cX3_bond 47 = .ok (.iastore, 1) := by decide +kernel
theorem dX3_bond_48 : decode cX3_bond 48 = .ok (.aload_n 0, 1) := by decide +kernel
theorem dX3_bond_49 : decode cX3_bond 49 = .ok (.getfield 7, 3) := by decide +kernel
theorem dX3_bond_52 : decode cX3_bond 52 = .ok (.iload 6, 2) := by decide +kernel
theorem dX3_bond_54 : decode cX3_bond 54 = .ok (.iconst 1, 1) := by decide +kernel
theorem dX3_bond_55 : decode cX3_bond 55 = .ok (.iadd, 1) := by decide +kernel
theorem dX3_bond_56 : decode cX3_bond 56 = .ok (.iload_n 2, 1) := by decide +kernel
theorem dX3_bond_57 : decode cX3_bond 57 = .ok (.iastore, 1) := by decide +kernel
theorem dX3_bond_58 : decode cX3_bond 58 = .ok (.aload_n 0, 1) := by decide +kernel
theorem dX3_bond_59 : decode cX3_bond 59 = .ok (.getfield 7, 3) := by decide +kernel
theorem dX3_bond_62 : decode cX3_bond 62 = .ok (.iload 6, 2) := by decide +kernel
theorem dX3_bond_64 : decode cX3_bond 64 = .ok (.iconst 2, 1) := by decide +kernel
theorem dX3_bond_65 : decode cX3_bond 65 = .ok (.iadd, 1) := by decide +kernel
theorem dX3_bond_66 : decode cX3_bond 66 = .ok (.iload_n 3, 1) := by decide +kernel
theorem dX3_bond_67 : decode cX3_bond 67 = .ok (.iastore, 1) := by decide +kernel
theorem dX3_bond_68 : decode cX3_bond 68 = .ok (.aload_n 0, 1) := by decide +kernel
theorem dX3_bond_69 : decode cX3_bond 69 = .ok (.getfield 7, 3) := by decide +kernel
theorem dX3_bond_72 : decode cX3_bond 72 = .ok (.iload 6, 2) := by decide +kernel
theorem dX3_bond_74 : decode cX3_bond 74 = .ok (.iconst 3, 1) := by decide +kernel
theorem dX3_bond_75 : decode cX3_bond 75 = .ok (.iadd, 1) := by decide +kernel
theorem dX3_bond_76 : decode cX3_bond 76 = .ok (.iload 4, 2) := by decide +kernel
theorem dX3_bond_78 : decode cX3_bond 78 = .ok (.iastore, 1) := by decide +kernel
theorem dX3_bond_79 : decode cX3_bond 79 = .ok (.aload_n 0, 1) := by decide +kernel
theorem dX3_bond_80 : decode cX3_bond 80 = .ok (.getfield 7, 3) := by decide +kernel
theorem dX3_bond_83 : decode cX3_bond 83 = .ok (.iload 6, 2) := by decide +kernel
theorem dX3_bond_85 : decode cX3_bond 85 = .ok (.iconst 4, 1) := by decide +kernel
theorem dX3_bond_86 : decode cX3_bond 86 = .ok (.iadd, 1) := by decide +kernel
theorem dX3_bond_87 : decode cX3_bond 87 = .ok (.iload 5, 2) := by decide +kernel
theorem dX3_bond_89 : decode cX3_bond 89 = .ok (.iastore, 1) := by decide +kernel
theorem dX3_bond_90 : decode cX3_bond 90 = .ok (.aload_n 0, 1) := by decide +kernel
theorem dX3_bond_91 : decode cX3_bond 91 = .ok (.getfield 7, 3) := by decide +kernel
theorem dX3_bond_94 : decode cX3_bond 94 = .ok (.iload 6, 2) := by decide +kernel
theorem dX3_bond_96 : decode cX3_bond 96 = .ok (.iconst 5, 1) := by decide +kernel
theorem dX3_bond_97 : decode cX3_bond 97 = .ok (.iadd, 1) := by decide +kernel
theorem dX3_bond_98 : decode cX3_bond 98 = .ok (.iconst 0, 1) := by decide +kernel
theorem dX3_bond_99 : decode cX3_bond 99 = .ok (.iastore, 1) := by decide +kernel
theorem dX3_bond_100 : decode cX3_bond 100 = .ok (.aload_n 0, 1) := by decide +kernel
theorem dX3_bond_101 : decode cX3_bond 101 = .ok (.getfield 7, 3) := by decide +kernel
theorem dX3_bond_104 : decode cX3_bond 104 = .ok (.iload 6, 2) := by decide +kernel
theorem dX3_bond_106 : decode cX3_bond 106 = .ok (.bipush 6, 2) := by decide +kernel
theorem dX3_bond_108 : decode cX3_bond 108 = .ok (.iadd, 1) := by decide +kernel
theorem dX3_bond_109 : decode cX3_bond 109 = .ok (.iconst 0, 1) := by decide +kernel
theorem dX3_bond_110 : decode cX3_bond 110 = .ok (.iastore, 1) := by decide +kernel
theorem dX3_bond_111 : decode cX3_bond 111 = .ok (.aload_n 0, 1) := by decide +kernel
theorem dX3_bond_112 : decode cX3_bond 112 = .ok (.dup, 1) := by decide +kernel
theorem dX3_bond_113 : decode cX3_bond 113 = .ok (.getfield 64, 3) := by decide +kernel
theorem dX3_bond_116 : decode cX3_bond 116 = .ok (.iconst 1, 1) := by decide +kernel
theorem dX3_bond_117 : decode cX3_bond 117 = .ok (.iadd, 1) := by decide +kernel
theorem dX3_bond_118 : decode cX3_bond 118 = .ok (.putfield 64, 3) := by decide +kernel
theorem dX3_bond_121 : decode cX3_bond 121 = .ok (.aload_n 0, 1) := by decide +kernel
theorem dX3_bond_122 : decode cX3_bond 122 = .ok (.getfield 64, 3) := by decide +kernel
theorem dX3_bond_125 : decode cX3_bond 125 = .ok (.iconst 1, 1) := by decide +kernel
theorem dX3_bond_126 : decode cX3_bond 126 = .ok (.isub, 1) := by decide +kernel
theorem dX3_bond_127 : decode cX3_bond 127 = .ok (.ireturn, 1) := by decide +kernel
set_option maxRecDepth 20000 in
theorem ggX3_drop_X3_isBond : GoodIn wsX3_drop wsX3_isBond := goodIn_r _ [8, 2, 9, 10, 7, 11, 12, 13, 14, 15, 16, 17, 18, 19, 20, 21, 22, 23, 24, 25, 26, 27, 28, 29, 30, 31] (by decide +kernel) (by decide +kernel)
set_option maxRecDepth 20000 in
theorem gX3_drop_X3_isBond : GoodIn wsX3_drop (wsV RX3 87 RX3 yX3_isBond wsX3_isBond) := goodIn_app (goodIn_of _ (by decide +kernel)) ggX3_drop_X3_isBond
theorem dX3_drop_0 : decode cX3_drop 0 = .ok (.aload_n 0, 1) := by decide +kernel
theorem dX3_drop_1 : decode cX3_drop 1 = .ok (.iconst 0, 1) := by decide +kernel
theorem dX3_drop_2 : decode cX3_drop 2 = .ok (.putfield 61, 3) := by decide +kernel
theorem dX3_drop_5 : decode cX3_drop 5 = .ok (.aload_n 0, 1) := by decide +kernel
theorem dX3_drop_6 : decode cX3_drop 6 = .ok (.iload_n 1, 1) := by decide +kernel
theorem dX3_drop_7 : decode cX3_drop 7 = .ok (.invokevirtual 87, 3) := by decide +kernel
theorem dX3_drop_10 : decode cX3_drop 10 = .ok (.ifCond .ne 5, 3) := by decide +kernel
theorem dX3_drop_13 : decode cX3_drop 13 = .ok (.iconst (-1), 1) := by decide +kernel
theorem dX3_drop_14 : decode cX3_drop 14 = .ok (.ireturn, 1) := by decide +kernel
theorem dX3_drop_15 : decode cX3_drop 15 = .ok (.aload_n 0, 1) := by decide +kernel
theorem dX3_drop_16 : decode cX3_drop 16 = .ok (.dup, 1) := by decide +kernel
theorem dX3_drop_17 : decode cX3_drop 17 = .ok (.getfield 64, 3) := by decide +kernel
theorem dX3_drop_20 : decode cX3_drop 20 = .ok (.iconst 1, 1) := by decide +kernel
theorem dX3_drop_21 : decode cX3_drop 21 = .ok (.isub, 1) := by decide +kernel
theorem dX3_drop_22 : decode cX3_drop 22 = .ok (.putfield 64, 3) := by decide +kernel
theorem dX3_drop_25 : decode cX3_drop 25 = .ok (.bipush 7, 2) := by decide +kernel
theorem dX3_drop_27 : decode cX3_drop 27 = .ok (.iload_n 1, 1) := by decide +kernel
theorem dX3_drop_28 : decode cX3_drop 28 = .ok (.imul, 1) := by decide +kernel
theorem dX3_drop_29 : decode cX3_drop 29 = .ok (.istore_n 2, 1) := by decide +kernel
theorem dX3_drop_30 : decode cX3_drop 30 = .ok (.iload_n 2, 1) := by decide +kernel
theorem dX3_drop_31 : decode cX3_drop 31 = .ok (.bipush 7, 2) := by decide +kernel
theorem dX3_drop_33 : decode cX3_drop 33 = .ok (.aload_n 0, 1) := by decide +kernel
theorem dX3_drop_34 : decode cX3_drop 34 = .ok (.getfield 64, 3) := by decide +kernel
theorem dX3_drop_37 : decode cX3_drop 37 = .ok (.imul, 1) := by decide +kernel
theorem dX3_drop_38 : decode cX3_drop 38 = .ok (.if_icmp .ge 24, 3) := by decide +kernel
theorem dX3_drop_41 : decode cX3_drop 41 = .ok (.aload_n 0, 1) := by decide +kernel
theorem dX3_drop_42 : decode cX3_drop 42 = .ok (.getfield 7, 3) := by decide +kernel
theorem dX3_drop_45 : decode cX3_drop 45 = .ok (.iload_n 2, 1) := by decide +kernel
theorem dX3_drop_46 : decode cX3_drop 46 = .ok (.aload_n 0, 1) := by decide +kernel
theorem dX3_drop_47 : decode cX3_drop 47 = .ok (.getfield 7, 3) := by decide +kernel
theorem dX3_drop_50 : decode cX3_drop 50 = .ok (.iload_n 2, 1) := by decide +kernel
theorem dX3_drop_51 : decode cX3_drop 51 = .ok (.bipush 7, 2) := by decide +kernel
theorem dX3_drop_53 : decode cX3_drop 53 = .ok (.iadd, 1) := by decide +kernel
theorem dX3_drop_54 : decode cX3_drop 54 = .ok (.iaload, 1) := by decide +kernel
theorem dX3_drop_55 : decode cX3_drop 55 = .ok (.iastore, 1) := by decide +kernel
theorem dX3_drop_56 : decode cX3_drop 56 = .ok (.iinc 2 1, 3) := by decide +kernel
theorem dX3_drop_59 : decode cX3_drop 59 = .ok (.goto (-29), 3) := by decide +kernel
theorem dX3_drop_62 : decode cX3_drop 62 = .ok (.aload_n 0, 1) := by decide +kernel
theorem dX3_drop_63 : decode cX3_drop 63 = .ok (.getfield 64, 3) := by decide +kernel
theorem dX3_drop_66 : decode cX3_drop 66 = .ok (.ireturn, 1) := by decide +kernel
set_option maxRecDepth 20000 in
theorem ggX3_alter_X3_isBond : GoodIn wsX3_alter wsX3_isBond := goodIn_r _ [11, 12, 13, 14, 10, 15, 20, 21, 22, 23, 24, 25, 26, 27, 28, 29, 30, 31, 32, 33, 34, 35, 36, 37, 38, 39] (by decide +kernel) (by decide +kernel)
set_option maxRecDepth 20000 in
theorem gX3_alter_X3_isBond : GoodIn wsX3_alter (wsV RX3 87 RX3 yX3_isBond wsX3_isBond) := goodIn_app (goodIn_of _ (by decide +kernel)) ggX3_alter_X3_isBond
set_option maxRecDepth 20000 in
theorem ggX3_alter_X3_isIn : GoodIn wsX3_alter wsX3_isIn := goodIn_r _ [15] (by decide +kernel) (by decide +kernel)
set_option maxRecDepth 20000 in
theorem gX3_alter_X3_isIn : GoodIn wsX3_alter (va_wsS RX3 67 yX3_isIn wsX3_isIn) := goodIn_app (goodIn_of _ (by decide +kernel)) ggX3_alter_X3_isIn
set_option maxRecDepth 20000 in
theorem ggX3_alter_X3_of1 : GoodIn wsX3_alter wsX3_of1 := goodIn_r _ [19, 6, 20, 21, 22, 23, 24, 25, 26, 27, 28, 29, 30, 31, 32, 33, 34, 35, 36, 37, 38, 39] (by decide +kernel) (by decide +kernel)
set_option maxRecDepth 20000 in
theorem gX3_alter_X3_of1 : GoodIn wsX3_alter (wsV RX3 95 RX3 yX3_of1 wsX3_of1) := goodIn_app (goodIn_of _ (by decide +kernel)) ggX3_alter_X3_of1
theorem dX3_alter_0 : decode cX3_alter 0 = .ok (.aload_n 0, 1) := by decide +kernel
theorem dX3_alter_1 : decode cX3_alter 1 = .ok (.iconst 0, 1) := by decide +kernel
theorem dX3_alter_2 : decode cX3_alter 2 = .ok (.putfield 61, 3) := by decide +kernel
theorem dX3_alter_5 : decode cX3_alter 5 = .ok (.aload_n 0, 1) := by decide +kernel
theorem dX3_alter_6 : decode cX3_alter 6 = .ok (.iload_n 1, 1) := by decide +kernel
theorem dX3_alter_7 : decode cX3_alter 7 = .ok (.invokevirtual 87, 3) := by decide +kernel
theorem dX3_alter_10 : decode cX3_alter 10 = .ok (.ifCond .eq 15, 3) := by decide +kernel
theorem dX3_alter_13 : decode cX3_alter 13 = .ok (.iload_n 2, 1) := by decide +kernel
theorem dX3_alter_14 : decode cX3_alter 14 = .ok (.i2l, 1) := by decide +kernel
theorem dX3_alter_15 : decode cX3_alter 15 = .ok (.lconst 0, 1) := by decide +kernel
theorem dX3_alter_16 : decode cX3_alter 16 = .ok (.ldc2_w 91, 3) := by decide +kernel
theorem dX3_alter_19 : decode cX3_alter 19 = .ok (.invokestatic 67, 3) := by decide +kernel
theorem dX3_alter_22 : decode cX3_alter 22 = .ok (.ifCond .ne 5, 3) := by decide +kernel
theorem dX3_alter_25 : decode cX3_alter 25 = .ok (.iconst 0, 1) := by decide +kernel
theorem dX3_alter_26 : decode cX3_alter 26 = .ok (.ireturn, 1) := by decide +kernel
theorem dX3_alter_27 : decode cX3_alter 27 = .ok (.iload_n 2, 1) := by decide +kernel
theorem dX3_alter_28 : decode cX3_alter 28 = .ok (.ifCond .ne 17, 3) := by decide +kernel
theorem dX3_alter_31 : decode cX3_alter 31 = .ok (.iload_n 3, 1) := by decide +kernel
theorem dX3_alter_32 : decode cX3_alter 32 = .ok (.i2l, 1) := by decide +kernel
theorem dX3_alter_33 : decode cX3_alter 33 = .ok (.ldc2_w 77, 3) := by decide +kernel
theorem dX3_alter_36 : decode cX3_alter 36 = .ok (.ldc2_w 79, 3) := by decide +kernel
theorem dX3_alter_39 : decode cX3_alter 39 = .ok (.invokestatic 67, 3) := by decide +kernel
theorem dX3_alter_42 : decode cX3_alter 42 = .ok (.goto 27, 3) := by decide +kernel
theorem dX3_alter_45 : decode cX3_alter 45 = .ok (.iload_n 2, 1) := by decide +kernel
theorem dX3_alter_46 : decode cX3_alter 46 = .ok (.iconst 1, 1) := by decide +kernel
theorem dX3_alter_47 : decode cX3_alter 47 = .ok (.if_icmp .ne 15, 3) := by decide +kernel
theorem dX3_alter_50 : decode cX3_alter 50 = .ok (.iload_n 3, 1) := by decide +kernel
theorem dX3_alter_51 : decode cX3_alter 51 = .ok (.i2l, 1) := by decide +kernel
theorem dX3_alter_52 : decode cX3_alter 52 = .ok (.lconst 0, 1) := by decide +kernel
theorem dX3_alter_53 : decode cX3_alter 53 = .ok (.ldc2_w 93, 3) := by decide +kernel
theorem dX3_alter_56 : decode cX3_alter 56 = .ok (.invokestatic 67, 3) := by decide +kernel
theorem dX3_alter_59 : decode cX3_alter 59 = .ok (.goto 10, 3) := by decide +kernel
theorem dX3_alter_62 : decode cX3_alter 62 = .ok (.iload_n 3, 1) := by decide +kernel
theorem dX3_alter_63 : decode cX3_alter 63 = .ok (.i2l, 1) := by decide +kernel
theorem dX3_alter_64 : decode cX3_alter 64 = .ok (.lconst 0, 1) := by decide +kernel
theorem dX3_alter_65 : decode cX3_alter 65 = .ok (.lconst 1, 1) := by decide +kernel
theorem dX3_alter_66 : decode cX3_alter 66 = .ok (.invokestatic 67, 3) := by decide +kernel
theorem dX3_alter_69 : decode cX3_alter 69 = .ok (.istore 4, 2) := by decide +kernel
theorem dX3_alter_71 : decode cX3_alter 71 = .ok (.iload 4, 2) := by decide +kernel
theorem dX3_alter_73 : decode cX3_alter 73 = .ok (.ifCond .eq 15, 3) := by decide +kernel
theorem dX3_alter_76 : decode cX3_alter 76 = .ok (.aload_n 0, 1) := by decide +kernel
theorem dX3_alter_77 : decode cX3_alter 77 = .ok (.iload_n 1, 1) := by decide +kernel
theorem dX3_alter_78 : decode cX3_alter 78 = .ok (.iconst 4, 1) := by decide +kernel
theorem dX3_alter_79 : decode cX3_alter 79 = .ok (.iload_n 2, 1) := by decide +kernel
theorem dX3_alter_80 : decode cX3_alter 80 = .ok (.iadd, 1) := by decide +kernel
theorem dX3_alter_81 : decode cX3_alter 81 = .ok (.invokevirtual 95, 3) := by decide +kernel
theorem dX3_alter_84 : decode cX3_alter 84 = .ok (.iload_n 3, 1) := by decide +kernel
theorem dX3_alter_85 : decode cX3_alter 85 = .ok (.if_icmp .ne 5, 3) := by decide +kernel
theorem dX3_alter_88 : decode cX3_alter 88 = .ok (.iconst 0, 1) := by decide +kernel
theorem dX3_alter_89 : decode cX3_alter 89 = .ok (.ireturn, 1) := by decide +kernel
theorem dX3_alter_90 : decode cX3_alter 90 = .ok (.aload_n 0, 1) := by decide +kernel
theorem dX3_alter_91 : decode cX3_alter 91 = .ok (.getfield 7, 3) := by decide +kernel
theorem dX3_alter_94 : decode cX3_alter 94 = .ok (.bipush 7, 2) := by decide +kernel
theorem dX3_alter_96 : decode cX3_alter 96 = .ok (.iload_n 1, 1) := by decide +kernel
theorem dX3_alter_97 : decode cX3_alter 97 = .ok (.imul, 1) := by decide +kernel
theorem dX3_alter_98 : decode cX3_alter 98 = .ok (.iconst 4, 1) := by decide +kernel
theorem dX3_alter_99 : decode cX3_alter 99 = .ok (.iadd, 1) := by decide +kernel
theorem dX3_alter_100 : decode cX3_alter 100 = .ok (.iload_n 2, 1) := by decide +kernel
theorem dX3_alter_101 : decode cX3_alter 101 = .ok (.iadd, 1) := by decide +kernel
theorem dX3_alter_102 : decode cX3_alter 102 = .ok (.iload_n 3, 1) := by decide +kernel
theorem dX3_alter_103 : decode cX3_alter 103 = .ok (.iastore, 1) := by decide +kernel
theorem dX3_alter_104 : decode cX3_alter 104 = .ok (.iconst 1, 1) := by decide +kernel
theorem dX3_alter_105 : decode cX3_alter 105 = .ok (.ireturn, 1) := by decide +kernel
set_option maxRecDepth 20000 in
theorem ggX3_owed_X3_of1 : GoodIn wsX3_owed wsX3_of1 := goodIn_r _ [6, 7, 8, 9, 10, 11, 12, 13, 14, 15, 16, 17, 18, 19, 20, 21, 22, 23, 24, 25, 26, 27] (by decide +kernel) (by decide +kernel)
set_option maxRecDepth 20000 in
theorem gX3_owed_X3_of1 : GoodIn wsX3_owed (wsV RX3 95 RX3 yX3_of1 wsX3_of1) := goodIn_app (goodIn_of _ (by decide +kernel)) ggX3_owed_X3_of1
theorem dX3_owed_0 : decode cX3_owed 0 = .ok (.aload_n 0, 1) := by decide +kernel
theorem dX3_owed_1 : decode cX3_owed 1 = .ok (.iload_n 1, 1) := by decide +kernel
theorem dX3_owed_2 : decode cX3_owed 2 = .ok (.iconst 0, 1) := by decide +kernel
theorem dX3_owed_3 : decode cX3_owed 3 = .ok (.invokevirtual 95, 3) := by decide +kernel
theorem dX3_owed_6 : decode cX3_owed 6 = .ok (.iconst 2, 1) := by decide +kernel
theorem dX3_owed_7 : decode cX3_owed 7 = .ok (.if_icmp .eq 7, 3) := by decide +kernel
theorem dX3_owed_10 : decode cX3_owed 10 = .ok (.ldc2_w 99, 3) := by decide +kernel
theorem dX3_owed_13 : decode cX3_owed 13 = .ok (.lreturn, 1) := by decide +kernel
theorem dX3_owed_14 : decode cX3_owed 14 = .ok (.iload_n 2, 1) := by decide +kernel
theorem dX3_owed_15 : decode cX3_owed 15 = .ok (.iconst 1, 1) := by decide +kernel
theorem dX3_owed_16 : decode cX3_owed 16 = .ok (.isub, 1) := by decide +kernel
theorem dX3_owed_17 : decode cX3_owed 17 = .ok (.aload_n 0, 1) := by decide +kernel
theorem dX3_owed_18 : decode cX3_owed 18 = .ok (.iload_n 1, 1) := by decide +kernel
theorem dX3_owed_19 : decode cX3_owed 19 = .ok (.iconst 2, 1) := by decide +kernel
theorem dX3_owed_20 : decode cX3_owed 20 = .ok (.invokevirtual 95, 3) := by decide +kernel
theorem dX3_owed_23 : decode cX3_owed 23 = .ok (.aload_n 0, 1) := by decide +kernel
theorem dX3_owed_24 : decode cX3_owed 24 = .ok (.iload_n 1, 1) := by decide +kernel
theorem dX3_owed_25 : decode cX3_owed 25 = .ok (.iconst 3, 1) := by decide +kernel
theorem dX3_owed_26 : decode cX3_owed 26 = .ok (.invokevirtual 95, 3) := by decide +kernel
theorem dX3_owed_29 : decode cX3_owed 29 = .ok (.isub, 1) := by decide +kernel
theorem dX3_owed_30 : decode cX3_owed 30 = .ok (.isub, 1) := by decide +kernel
theorem dX3_owed_31 : decode cX3_owed 31 = .ok (.istore_n 3, 1) := by decide +kernel
theorem dX3_owed_32 : decode cX3_owed 32 = .ok (.iload_n 3, 1) := by decide +kernel
theorem dX3_owed_33 : decode cX3_owed 33 = .ok (.ifCond .gt 9, 3) := by decide +kernel
theorem dX3_owed_36 : decode cX3_owed 36 = .ok (.ldc2_w 99, 3) := by decide +kernel
theorem dX3_owed_39 : decode cX3_owed 39 = .ok (.goto 21, 3) := by decide +kernel
theorem dX3_owed_42 : decode cX3_owed 42 = .ok (.ldc2_w 99, 3) := by decide +kernel
theorem dX3_owed_45 : decode cX3_owed 45 = .ok (.iload_n 3, 1) := by decide +kernel
theorem dX3_owed_46 : decode cX3_owed 46 = .ok (.i2l, 1) := by decide +kernel
theorem dX3_owed_47 : decode cX3_owed 47 = .ok (.ldc2_w 99, 3) := by decide +kernel
theorem dX3_owed_50 : decode cX3_owed 50 = .ok (.aload_n 0, 1) := by decide +kernel
theorem dX3_owed_51 : decode cX3_owed 51 = .ok (.iload_n 1, 1) := by decide +kernel
theorem dX3_owed_52 : decode cX3_owed 52 = .ok (.iconst 3, 1) := by decide +kernel
theorem dX3_owed_53 : decode cX3_owed 53 = .ok (.invokevirtual 95, 3) := by decide +kernel
theorem dX3_owed_56 : decode cX3_owed 56 = .ok (.i2l, 1) := by decide +kernel
theorem dX3_owed_57 : decode cX3_owed 57 = .ok (.ldiv, 1) := by decide +kernel
theorem dX3_owed_58 : decode cX3_owed 58 = .ok (.lmul, 1) := by decide +kernel
theorem dX3_owed_59 : decode cX3_owed 59 = .ok (.lsub, 1) := by decide +kernel
theorem dX3_owed_60 : decode cX3_owed 60 = .ok (.lreturn, 1) := by decide +kernel
set_option maxRecDepth 20000 in
theorem ggX3_back_X3_of1 : GoodIn wsX3_back wsX3_of1 := goodIn_r _ [6, 7, 12, 13, 14, 15, 16, 17, 18, 19, 20, 21, 22, 23, 24, 25, 26, 27, 28, 29, 30, 31] (by decide +kernel) (by decide +kernel)
set_option maxRecDepth 20000 in
theorem gX3_back_X3_of1 : GoodIn wsX3_back (wsV RX3 95 RX3 yX3_of1 wsX3_of1) := goodIn_app (goodIn_of _ (by decide +kernel)) ggX3_back_X3_of1
set_option maxRecDepth 20000 in
theorem ggX3_back_X3_owed : GoodIn wsX3_back wsX3_owed := goodIn_r _ [11, 1, 2, 3, 4, 5, 6, 7, 12, 13, 14, 15, 16, 17, 18, 19, 20, 21, 22, 23, 24, 25, 26, 27, 28, 29, 30, 31] (by decide +kernel) (by decide +kernel)
set_option maxRecDepth 20000 in
theorem gX3_back_X3_owed : GoodIn wsX3_back (wsV RX3 101 RX3 yX3_owed wsX3_owed) := goodIn_app (goodIn_of _ (by decide +kernel)) ggX3_back_X3_owed
theorem dX3_back_0 : decode cX3_back 0 = .ok (.iload_n 2, 1) := by decide +kernel
theorem dX3_back_1 : decode cX3_back 1 = .ok (.aload_n 0, 1) := by decide +kernel
theorem dX3_back_2 : decode cX3_back 2 = .ok (.iload_n 1, 1) := by decide +kernel
theorem dX3_back_3 : decode cX3_back 3 = .ok (.iconst 2, 1) := by decide +kernel
theorem dX3_back_4 : decode cX3_back 4 = .ok (.invokevirtual 95, 3) := by decide +kernel
theorem dX3_back_7 : decode cX3_back 7 = .ok (.if_icmp .ne 10, 3) := by decide +kernel
theorem dX3_back_10 : decode cX3_back 10 = .ok (.aload_n 0, 1) := by decide +kernel
theorem dX3_back_11 : decode cX3_back 11 = .ok (.iload_n 1, 1) := by decide +kernel
theorem dX3_back_12 : decode cX3_back 12 = .ok (.iload_n 2, 1) := by decide +kernel
theorem dX3_back_13 : decode cX3_back 13 = .ok (.invokevirtual 101, 3) := by decide +kernel
theorem dX3_back_16 : decode cX3_back 16 = .ok (.lreturn, 1) := by decide +kernel
theorem dX3_back_17 : decode cX3_back 17 = .ok (.aload_n 0, 1) := by decide +kernel
theorem dX3_back_18 : decode cX3_back 18 = .ok (.iload_n 1, 1) := by decide +kernel
theorem dX3_back_19 : decode cX3_back 19 = .ok (.iconst 0, 1) := by decide +kernel
theorem dX3_back_20 : decode cX3_back 20 = .ok (.invokevirtual 95, 3) := by decide +kernel
theorem dX3_back_23 : decode cX3_back 23 = .ok (.iconst 2, 1) := by decide +kernel
theorem dX3_back_24 : decode cX3_back 24 = .ok (.if_icmp .ne 34, 3) := by decide +kernel
theorem dX3_back_27 : decode cX3_back 27 = .ok (.iload_n 2, 1) := by decide +kernel
theorem dX3_back_28 : decode cX3_back 28 = .ok (.aload_n 0, 1) := by decide +kernel
theorem dX3_back_29 : decode cX3_back 29 = .ok (.iload_n 1, 1) := by decide +kernel
theorem dX3_back_30 : decode cX3_back 30 = .ok (.iconst 2, 1) := by decide +kernel
theorem dX3_back_31 : decode cX3_back 31 = .ok (.invokevirtual 95, 3) := by decide +kernel
theorem dX3_back_34 : decode cX3_back 34 = .ok (.aload_n 0, 1) := by decide +kernel
theorem dX3_back_35 : decode cX3_back 35 = .ok (.iload_n 1, 1) := by decide +kernel
theorem dX3_back_36 : decode cX3_back 36 = .ok (.iconst 3, 1) := by decide +kernel
theorem dX3_back_37 : decode cX3_back 37 = .ok (.invokevirtual 95, 3) := by decide +kernel
theorem dX3_back_40 : decode cX3_back 40 = .ok (.isub, 1) := by decide +kernel
theorem dX3_back_41 : decode cX3_back 41 = .ok (.if_icmp .le 17, 3) := by decide +kernel
theorem dX3_back_44 : decode cX3_back 44 = .ok (.ldc2_w 99, 3) := by decide +kernel
theorem dX3_back_47 : decode cX3_back 47 = .ok (.aload_n 0, 1) := by decide +kernel
theorem dX3_back_48 : decode cX3_back 48 = .ok (.iload_n 1, 1) := by decide +kernel
theorem dX3_back_49 : decode cX3_back 49 = .ok (.iconst 3, 1) := by decide +kernel
theorem dX3_back_50 : decode cX3_back 50 = .ok (.invokevirtual 95, 3) := by decide +kernel
theorem dX3_back_53 : decode cX3_back 53 = .ok (.i2l, 1) := by decide +kernel
theorem dX3_back_54 : decode cX3_back 54 = .ok (.ldiv, 1) := by decide +kernel
theorem dX3_back_55 : decode cX3_back 55 = .ok (.goto 4, 3) := by decide +kernel
theorem dX3_back_58 : decode cX3_back 58 = .ok (.lconst 0, 1) := by decide +kernel
theorem dX3_back_59 : decode cX3_back 59 = .ok (.lreturn, 1) := by decide +kernel
set_option maxRecDepth 20000 in
theorem ggX3_flow1_X3_of1 : GoodIn wsX3_flow1 wsX3_of1 := goodIn_r _ [6, 7, 17, 18, 19, 20, 21, 22, 23, 24, 25, 26, 27, 28, 29, 30, 31, 32, 33, 34, 35, 36] (by decide +kernel) (by decide +kernel)
set_option maxRecDepth 20000 in
theorem gX3_flow1_X3_of1 : GoodIn wsX3_flow1 (wsV RX3 95 RX3 yX3_of1 wsX3_of1) := goodIn_app (goodIn_of _ (by decide +kernel)) ggX3_flow1_X3_of1
set_option maxRecDepth 20000 in
theorem ggX3_flow1_X3_owed : GoodIn wsX3_flow1 wsX3_owed := goodIn_r _ [11, 12, 2, 3, 4, 5, 6, 7, 17, 18, 19, 20, 21, 22, 23, 24, 25, 26, 27, 28, 29, 30, 31, 32, 33, 34, 35, 36] (by decide +kernel) (by decide +kernel)
set_option maxRecDepth 20000 in
theorem gX3_flow1_X3_owed : GoodIn wsX3_flow1 (wsV RX3 101 RX3 yX3_owed wsX3_owed) := goodIn_app (goodIn_of _ (by decide +kernel)) ggX3_flow1_X3_owed
set_option maxRecDepth 20000 in
theorem ggX3_flow1_X3_back : GoodIn wsX3_flow1 wsX3_back := goodIn_r _ [16, 12, 2, 3, 4, 5, 6, 7, 8, 9, 10, 11, 17, 18, 19, 20, 21, 22, 23, 24, 25, 26, 27, 28, 29, 30, 31, 32, 33, 34, 35, 36] (by decide +kernel) (by decide +kernel)
set_option maxRecDepth 20000 in
theorem gX3_flow1_X3_back : GoodIn wsX3_flow1 (wsV RX3 107 RX3 yX3_back wsX3_back) := goodIn_app (goodIn_of _ (by decide +kernel)) ggX3_flow1_X3_back
theorem dX3_flow1_0 : decode cX3_flow1 0 = .ok (.aload_n 0, 1) := by decide +kernel
theorem dX3_flow1_1 : decode cX3_flow1 1 = .ok (.iload_n 1, 1) := by decide +kernel
theorem dX3_flow1_2 : decode cX3_flow1 2 = .ok (.iconst 1, 1) := by decide +kernel
theorem dX3_flow1_3 : decode cX3_flow1 3 = .ok (.invokevirtual 95, 3) := by decide +kernel
theorem dX3_flow1_6 : decode cX3_flow1 6 = .ok (.aload_n 0, 1) := by decide +kernel
theorem dX3_flow1_7 : decode cX3_flow1 7 = .ok (.iload_n 1, 1) := by decide +kernel
theorem dX3_flow1_8 : decode cX3_flow1 8 = .ok (.iconst 0, 1) := by decide +kernel
theorem dX3_flow1_9 : decode cX3_flow1 9 = .ok (.invokevirtual 95, 3) := by decide +kernel
theorem dX3_flow1_12 : decode cX3_flow1 12 = .ok (.iconst 1, 1) := by decide +kernel
theorem dX3_flow1_13 : decode cX3_flow1 13 = .ok (.if_icmp .ne 16, 3) := by decide +kernel
theorem dX3_flow1_16 : decode cX3_flow1 16 = .ok (.iload_n 2, 1) := by decide +kernel
theorem dX3_flow1_17 : decode cX3_flow1 17 = .ok (.iconst 1, 1) := by decide +kernel
theorem dX3_flow1_18 : decode cX3_flow1 18 = .ok (.isub, 1) := by decide +kernel
theorem dX3_flow1_19 : decode cX3_flow1 19 = .ok (.aload_n 0, 1) := by decide +kernel
theorem dX3_flow1_20 : decode cX3_flow1 20 = .ok (.iload_n 1, 1) := by decide +kernel
theorem dX3_flow1_21 : decode cX3_flow1 21 = .ok (.iconst 3, 1) := by decide +kernel
theorem dX3_flow1_22 : decode cX3_flow1 22 = .ok (.invokevirtual 95, 3) := by decide +kernel
theorem dX3_flow1_25 : decode cX3_flow1 25 = .ok (.imul, 1) := by decide +kernel
theorem dX3_flow1_26 : decode cX3_flow1 26 = .ok (.goto 4, 3) := by decide +kernel
theorem dX3_flow1_29 : decode cX3_flow1 29 = .ok (.iconst 0, 1) := by decide +kernel
theorem dX3_flow1_30 : decode cX3_flow1 30 = .ok (.iadd, 1) := by decide +kernel
theorem dX3_flow1_31 : decode cX3_flow1 31 = .ok (.i2l, 1) := by decide +kernel
theorem dX3_flow1_32 : decode cX3_flow1 32 = .ok (.lstore_n 3, 1) := by decide +kernel
theorem dX3_flow1_33 : decode cX3_flow1 33 = .ok (.lload_n 3, 1) := by decide +kernel
theorem dX3_flow1_34 : decode cX3_flow1 34 = .ok (.aload_n 0, 1) := by decide +kernel
theorem dX3_flow1_35 : decode cX3_flow1 35 = .ok (.iload_n 1, 1) := by decide +kernel
theorem dX3_flow1_36 : decode cX3_flow1 36 = .ok (.iload_n 2, 1) := by decide +kernel
theorem dX3_flow1_37 : decode cX3_flow1 37 = .ok (.invokevirtual 101, 3) := by decide +kernel
theorem dX3_flow1_40 : decode cX3_flow1 40 = .ok (.lmul, 1) := by decide +kernel
theorem dX3_flow1_41 : decode cX3_flow1 41 = .ok (.ldc2_w 105, 3) := by decide +kernel
theorem dX3_flow1_44 : decode cX3_flow1 44 = .ok (.ldiv, 1) := by decide +kernel
theorem dX3_flow1_45 : decode cX3_flow1 45 = .ok (.aload_n 0, 1) := by decide +kernel
theorem dX3_flow1_46 : decode cX3_flow1 46 = .ok (.iload_n 1, 1) := by decide +kernel
theorem dX3_flow1_47 : decode cX3_flow1 47 = .ok (.iload_n 2, 1) := by decide +kernel
theorem dX3_flow1_48 : decode cX3_flow1 48 = .ok (.invokevirtual 107, 3) := by decide +kernel
theorem dX3_flow1_51 : decode cX3_flow1 51 = .ok (.ladd, 1) := by decide +kernel
theorem dX3_flow1_52 : decode cX3_flow1 52 = .ok (.lreturn, 1) := by decide +kernel
set_option maxRecDepth 20000 in
theorem ggX3_worth_X3_of1 : GoodIn wsX3_worth wsX3_of1 := goodIn_r _ [6, 7, 21, 22, 23, 24, 25, 26, 27, 28, 29, 30, 31, 32, 33, 34, 35, 36, 37, 38, 39, 40] (by decide +kernel) (by decide +kernel)
set_option maxRecDepth 20000 in
theorem gX3_worth_X3_of1 : GoodIn wsX3_worth (wsV RX3 95 RX3 yX3_of1 wsX3_of1) := goodIn_app (goodIn_of _ (by decide +kernel)) ggX3_worth_X3_of1
set_option maxRecDepth 20000 in
theorem ggX3_worth_X3_flow1 : GoodIn wsX3_worth wsX3_flow1 := goodIn_r _ [11, 1, 2, 3, 4, 5, 6, 7, 12, 13, 14, 15, 16, 17, 18, 19, 20, 21, 22, 23, 24, 25, 26, 27, 28, 29, 30, 31, 32, 33, 34, 35, 36, 37, 38, 39, 40] (by decide +kernel) (by decide +kernel)
set_option maxRecDepth 20000 in
theorem gX3_worth_X3_flow1 : GoodIn wsX3_worth (wsV RX3 110 RX3 yX3_flow1 wsX3_flow1) := goodIn_app (goodIn_of _ (by decide +kernel)) ggX3_worth_X3_flow1
theorem dX3_worth_0 : decode cX3_worth 0 = .ok (.lconst 0, 1) := by decide +kernel
theorem dX3_worth_1 : decode cX3_worth 1 = .ok (.lstore_n 3, 1) := by decide +kernel
theorem dX3_worth_2 : decode cX3_worth 2 = .ok (.aload_n 0, 1) := by decide +kernel
theorem dX3_worth_3 : decode cX3_worth 3 = .ok (.iload_n 1, 1) := by decide +kernel
theorem dX3_worth_4 : decode cX3_worth 4 = .ok (.iconst 2, 1) := by decide +kernel
theorem dX3_worth_5 : decode cX3_worth 5 = .ok (.invokevirtual 95, 3) := by decide +kernel
theorem dX3_worth_8 : decode cX3_worth 8 = .ok (.istore 5, 2) := by decide +kernel
theorem dX3_worth_10 : decode cX3_worth 10 = .ok (.iload 5, 2) := by decide +kernel
theorem dX3_worth_12 : decode cX3_worth 12 = .ok (.ifCond .le 30, 3) := by decide +kernel
theorem dX3_worth_15 : decode cX3_worth 15 = .ok (.lload_n 3, 1) := by decide +kernel
end
section
theorem dX3_worth_16 : decode cX3_worth 16 = .ok (.aload_n 0, 1) := by decide +kernel
theorem dX3_worth_17 : decode cX3_worth 17 = .ok (.iload_n 1, 1) := by decide +kernel
theorem dX3_worth_18 : decode cX3_worth 18 = .ok (.iload 5, 2) := by decide +kernel
theorem dX3_worth_20 : decode cX3_worth 20 = .ok (.invokevirtual 110, 3) := by decide +kernel
theorem dX3_worth_23 : decode cX3_worth 23 = .ok (.ladd, 1) := by decide +kernel
theorem dX3_worth_24 : decode cX3_worth 24 = .ok (.ldc2_w 105, 3) := by decide +kernel
theorem dX3_worth_27 : decode cX3_worth 27 = .ok (.lmul, 1) := by decide +kernel
theorem dX3_worth_28 : decode cX3_worth 28 = .ok (.ldc2_w 105, 3) := by decide +kernel
theorem dX3_worth_31 : decode cX3_worth 31 = .ok (.iload_n 2, 1) := by decide +kernel
theorem dX3_worth_32 : decode cX3_worth 32 = .ok (.i2l, 1) := by decide +kernel
theorem dX3_worth_33 : decode cX3_worth 33 = .ok (.ladd, 1) := by decide +kernel
theorem dX3_worth_34 : decode cX3_worth 34 = .ok (.ldiv, 1) := by decide +kernel
theorem dX3_worth_35 : decode cX3_worth 35 = .ok (.lstore_n 3, 1) := by decide +kernel
theorem dX3_worth_36 : decode cX3_worth 36 = .ok (.iinc 5 (-1), 3) := by decide +kernel
theorem dX3_worth_39 : decode cX3_worth 39 = .ok (.goto (-29), 3) := by decide +kernel
theorem dX3_worth_42 : decode cX3_worth 42 = .ok (.lload_n 3, 1) := by decide +kernel
theorem dX3_worth_43 : decode cX3_worth 43 = .ok (.lreturn, 1) := by decide +kernel
set_option maxRecDepth 20000 in
theorem ggX3_price1_X3_of1 : GoodIn wsX3_price1 wsX3_of1 := goodIn_r _ [5, 6, 25, 26, 27, 28, 29, 30, 31, 32, 33, 34, 35, 36, 37, 38, 39, 40, 41, 42, 43, 44] (by decide +kernel) (by decide +kernel)
set_option maxRecDepth 20000 in
theorem gX3_price1_X3_of1 : GoodIn wsX3_price1 (wsV RX3 95 RX3 yX3_of1 wsX3_of1) := goodIn_app (goodIn_of _ (by decide +kernel)) ggX3_price1_X3_of1
set_option maxRecDepth 20000 in
theorem ggX3_price1_X3_worth : GoodIn wsX3_price1 wsX3_worth := goodIn_r _ [10, 11, 1, 2, 3, 4, 5, 6, 12, 13, 14, 15, 16, 17, 18, 19, 20, 21, 22, 23, 24, 25, 26, 27, 28, 29, 30, 31, 32, 33, 34, 35, 36, 37, 38, 39, 40, 41, 42, 43, 44] (by decide +kernel) (by decide +kernel)
set_option maxRecDepth 20000 in
theorem gX3_price1_X3_worth : GoodIn wsX3_price1 (wsV RX3 113 RX3 yX3_worth wsX3_worth) := goodIn_app (goodIn_of _ (by decide +kernel)) ggX3_price1_X3_worth
theorem dX3_price1_0 : decode cX3_price1 0 = .ok (.iload_n 2, 1) := by decide +kernel
theorem dX3_price1_1 : decode cX3_price1 1 = .ok (.aload_n 0, 1) := by decide +kernel
theorem dX3_price1_2 : decode cX3_price1 2 = .ok (.iload_n 1, 1) := by decide +kernel
theorem dX3_price1_3 : decode cX3_price1 3 = .ok (.iconst 4, 1) := by decide +kernel
theorem dX3_price1_4 : decode cX3_price1 4 = .ok (.invokevirtual 95, 3) := by decide +kernel
theorem dX3_price1_7 : decode cX3_price1 7 = .ok (.iadd, 1) := by decide +kernel
theorem dX3_price1_8 : decode cX3_price1 8 = .ok (.istore_n 3, 1) := by decide +kernel
theorem dX3_price1_9 : decode cX3_price1 9 = .ok (.aload_n 0, 1) := by decide +kernel
theorem dX3_price1_10 : decode cX3_price1 10 = .ok (.iload_n 1, 1) := by decide +kernel
theorem dX3_price1_11 : decode cX3_price1 11 = .ok (.iload_n 3, 1) := by decide +kernel
theorem dX3_price1_12 : decode cX3_price1 12 = .ok (.ifCond .ge 7, 3) := by decide +kernel
theorem dX3_price1_15 : decode cX3_price1 15 = .ok (.iconst 0, 1) := by decide +kernel
theorem dX3_price1_16 : decode cX3_price1 16 = .ok (.goto 4, 3) := by decide +kernel
theorem dX3_price1_19 : decode cX3_price1 19 = .ok (.iload_n 3, 1) := by decide +kernel
theorem dX3_price1_20 : decode cX3_price1 20 = .ok (.invokevirtual 113, 3) := by decide +kernel
theorem dX3_price1_23 : decode cX3_price1 23 = .ok (.lreturn, 1) := by decide +kernel
set_option maxRecDepth 20000 in
theorem ggX3_factor_X3_worth : GoodIn wsX3_factor wsX3_worth := goodIn_r _ [7, 2, 8, 9, 10, 6, 11, 12, 13, 14, 15, 16, 17, 18, 19, 20, 21, 22, 23, 24, 25, 26, 27, 28, 29, 30, 31, 32, 33, 34, 35, 36, 37, 38, 39, 40, 41, 42, 43, 44, 45] (by decide +kernel) (by decide +kernel)
set_option maxRecDepth 20000 in
theorem gX3_factor_X3_worth : GoodIn wsX3_factor (wsV RX3 113 RX3 yX3_worth wsX3_worth) := goodIn_app (goodIn_of _ (by decide +kernel)) ggX3_factor_X3_worth
theorem dX3_factor_0 : decode cX3_factor 0 = .ok (.aload_n 0, 1) := by decide +kernel
theorem dX3_factor_1 : decode cX3_factor 1 = .ok (.iload_n 1, 1) := by decide +kernel
theorem dX3_factor_2 : decode cX3_factor 2 = .ok (.aload_n 0, 1) := by decide +kernel
theorem dX3_factor_3 : decode cX3_factor 3 = .ok (.getfield 13, 3) := by decide +kernel
theorem dX3_factor_6 : decode cX3_factor 6 = .ok (.invokevirtual 113, 3) := by decide +kernel
theorem dX3_factor_9 : decode cX3_factor 9 = .ok (.ldc2_w 105, 3) := by decide +kernel
theorem dX3_factor_12 : decode cX3_factor 12 = .ok (.ldiv, 1) := by decide +kernel
theorem dX3_factor_13 : decode cX3_factor 13 = .ok (.lreturn, 1) := by decide +kernel
set_option maxRecDepth 20000 in
theorem ggX3_isEligible_X3_of1 : GoodIn wsX3_isEligible wsX3_of1 := goodIn_r _ [9, 10, 37, 38, 39, 40, 41, 42, 43, 44, 45, 46, 47, 48, 49, 50, 51, 52, 53, 54, 55, 56] (by decide +kernel) (by decide +kernel)
set_option maxRecDepth 20000 in
theorem gX3_isEligible_X3_of1 : GoodIn wsX3_isEligible (wsV RX3 95 RX3 yX3_of1 wsX3_of1) := goodIn_app (goodIn_of _ (by decide +kernel)) ggX3_isEligible_X3_of1
set_option maxRecDepth 20000 in
theorem ggX3_isEligible_X3_isIn : GoodIn wsX3_isEligible wsX3_isIn := goodIn_r _ [13] (by decide +kernel) (by decide +kernel)
set_option maxRecDepth 20000 in
theorem gX3_isEligible_X3_isIn : GoodIn wsX3_isEligible (va_wsS RX3 67 yX3_isIn wsX3_isIn) := goodIn_app (goodIn_of _ (by decide +kernel)) ggX3_isEligible_X3_isIn
set_option maxRecDepth 20000 in
theorem ggX3_isEligible_X3_factor : GoodIn wsX3_isEligible wsX3_factor := goodIn_r _ [17, 18, 19, 20, 21, 22, 8, 23, 5, 6, 7, 9, 10, 24, 25, 26, 27, 28, 29, 30, 31, 32, 33, 34, 35, 36, 37, 38, 39, 40, 41, 42, 43, 44, 45, 46, 47, 48, 49, 50, 51, 52, 53, 54, 55, 56] (by decide +kernel) (by decide +kernel)
set_option maxRecDepth 20000 in
theorem gX3_isEligible_X3_factor : GoodIn wsX3_isEligible (wsV RX3 116 RX3 yX3_factor wsX3_factor) := goodIn_app (goodIn_of _ (by decide +kernel)) ggX3_isEligible_X3_factor
theorem dX3_isEligible_0 : decode cX3_isEligible 0 = .ok (.aload_n 0, 1) := by decide +kernel
theorem dX3_isEligible_1 : decode cX3_isEligible 1 = .ok (.getfield 33, 3) := by decide +kernel
theorem dX3_isEligible_4 : decode cX3_isEligible 4 = .ok (.iconst (-1), 1) := by decide +kernel
theorem dX3_isEligible_5 : decode cX3_isEligible 5 = .ok (.if_icmp .eq 11, 3) := by decide +kernel
theorem dX3_isEligible_8 : decode cX3_isEligible 8 = .ok (.iload_n 1, 1) := by decide +kernel
theorem dX3_isEligible_9 : decode cX3_isEligible 9 = .ok (.aload_n 0, 1) := by decide +kernel
theorem dX3_isEligible_10 : decode cX3_isEligible 10 = .ok (.getfield 33, 3) := by decide +kernel
theorem dX3_isEligible_13 : decode cX3_isEligible 13 = .ok (.if_icmp .ne 11, 3) := by decide +kernel
theorem dX3_isEligible_16 : decode cX3_isEligible 16 = .ok (.iload_n 1, 1) := by decide +kernel
theorem dX3_isEligible_17 : decode cX3_isEligible 17 = .ok (.aload_n 0, 1) := by decide +kernel
theorem dX3_isEligible_18 : decode cX3_isEligible 18 = .ok (.getfield 36, 3) := by decide +kernel
theorem dX3_isEligible_21 : decode cX3_isEligible 21 = .ok (.if_icmp .ne 5, 3) := by decide +kernel
theorem dX3_isEligible_24 : decode cX3_isEligible 24 = .ok (.iconst 0, 1) := by decide +kernel
theorem dX3_isEligible_25 : decode cX3_isEligible 25 = .ok (.ireturn, 1) := by decide +kernel
theorem dX3_isEligible_26 : decode cX3_isEligible 26 = .ok (.aload_n 0, 1) := by decide +kernel
theorem dX3_isEligible_27 : decode cX3_isEligible 27 = .ok (.iload_n 1, 1) := by decide +kernel
theorem dX3_isEligible_28 : decode cX3_isEligible 28 = .ok (.bipush 6, 2) := by decide +kernel
theorem dX3_isEligible_30 : decode cX3_isEligible 30 = .ok (.invokevirtual 95, 3) := by decide +kernel
theorem dX3_isEligible_33 : decode cX3_isEligible 33 = .ok (.ifCond .ne 40, 3) := by decide +kernel
theorem dX3_isEligible_36 : decode cX3_isEligible 36 = .ok (.aload_n 0, 1) := by decide +kernel
theorem dX3_isEligible_37 : decode cX3_isEligible 37 = .ok (.iload_n 1, 1) := by decide +kernel
theorem dX3_isEligible_38 : decode cX3_isEligible 38 = .ok (.iconst 2, 1) := by decide +kernel
theorem dX3_isEligible_39 : decode cX3_isEligible 39 = .ok (.invokevirtual 95, 3) := by decide +kernel
theorem dX3_isEligible_42 : decode cX3_isEligible 42 = .ok (.i2l, 1) := by decide +kernel
theorem dX3_isEligible_43 : decode cX3_isEligible 43 = .ok (.aload_n 0, 1) := by decide +kernel
theorem dX3_isEligible_44 : decode cX3_isEligible 44 = .ok (.getfield 17, 3) := by decide +kernel
theorem dX3_isEligible_47 : decode cX3_isEligible 47 = .ok (.i2l, 1) := by decide +kernel
theorem dX3_isEligible_48 : decode cX3_isEligible 48 = .ok (.aload_n 0, 1) := by decide +kernel
theorem dX3_isEligible_49 : decode cX3_isEligible 49 = .ok (.getfield 20, 3) := by decide +kernel
theorem dX3_isEligible_52 : decode cX3_isEligible 52 = .ok (.i2l, 1) := by decide +kernel
theorem dX3_isEligible_53 : decode cX3_isEligible 53 = .ok (.invokestatic 67, 3) := by decide +kernel
theorem dX3_isEligible_56 : decode cX3_isEligible 56 = .ok (.ifCond .eq 17, 3) := by decide +kernel
theorem dX3_isEligible_59 : decode cX3_isEligible 59 = .ok (.aload_n 0, 1) := by decide +kernel
theorem dX3_isEligible_60 : decode cX3_isEligible 60 = .ok (.iload_n 1, 1) := by decide +kernel
theorem dX3_isEligible_61 : decode cX3_isEligible 61 = .ok (.invokevirtual 116, 3) := by decide +kernel
theorem dX3_isEligible_64 : decode cX3_isEligible 64 = .ok (.lconst 0, 1) := by decide +kernel
theorem dX3_isEligible_65 : decode cX3_isEligible 65 = .ok (.lcmp, 1) := by decide +kernel
theorem dX3_isEligible_66 : decode cX3_isEligible 66 = .ok (.ifCond .le 7, 3) := by decide +kernel
theorem dX3_isEligible_69 : decode cX3_isEligible 69 = .ok (.iconst 1, 1) := by decide +kernel
theorem dX3_isEligible_70 : decode cX3_isEligible 70 = .ok (.goto 4, 3) := by decide +kernel
theorem dX3_isEligible_73 : decode cX3_isEligible 73 = .ok (.iconst 0, 1) := by decide +kernel
theorem dX3_isEligible_74 : decode cX3_isEligible 74 = .ok (.ireturn, 1) := by decide +kernel
set_option maxRecDepth 20000 in
theorem ggX3_eligible_X3_isEligible : GoodIn wsX3_eligible wsX3_isEligible := goodIn_r _ [6, 7, 8, 9, 10, 11, 12, 13, 5, 14, 15, 16, 17, 18, 19, 20, 21, 22, 23, 24, 25, 26, 27, 28, 29, 30, 31, 32, 33, 34, 35, 36, 37, 38, 39, 40, 41, 42, 43, 44, 45, 46, 47, 48, 49, 50, 51, 52, 53, 54, 55, 56, 57, 58, 59, 60, 61] (by decide +kernel) (by decide +kernel)
set_option maxRecDepth 20000 in
theorem gX3_eligible_X3_isEligible : GoodIn wsX3_eligible (wsV RX3 120 RX3 yX3_isEligible wsX3_isEligible) := goodIn_app (goodIn_of _ (by decide +kernel)) ggX3_eligible_X3_isEligible
theorem dX3_eligible_0 : decode cX3_eligible 0 = .ok (.iconst 0, 1) := by decide +kernel
theorem dX3_eligible_1 : decode cX3_eligible 1 = .ok (.istore_n 1, 1) := by decide +kernel
theorem dX3_eligible_2 : decode cX3_eligible 2 = .ok (.iconst 0, 1) := by decide +kernel
theorem dX3_eligible_3 : decode cX3_eligible 3 = .ok (.istore_n 2, 1) := by decide +kernel
theorem dX3_eligible_4 : decode cX3_eligible 4 = .ok (.iload_n 2, 1) := by decide +kernel
theorem dX3_eligible_5 : decode cX3_eligible 5 = .ok (.aload_n 0, 1) := by decide +kernel
theorem dX3_eligible_6 : decode cX3_eligible 6 = .ok (.getfield 64, 3) := by decide +kernel
theorem dX3_eligible_9 : decode cX3_eligible 9 = .ok (.if_icmp .ge 27, 3) := by decide +kernel
theorem dX3_eligible_12 : decode cX3_eligible 12 = .ok (.iload_n 1, 1) := by decide +kernel
theorem dX3_eligible_13 : decode cX3_eligible 13 = .ok (.aload_n 0, 1) := by decide +kernel
theorem dX3_eligible_14 : decode cX3_eligible 14 = .ok (.iload_n 2, 1) := by decide +kernel
theorem dX3_eligible_15 : decode cX3_eligible 15 = .ok (.invokevirtual 120, 3) := by decide +kernel
theorem dX3_eligible_18 : decode cX3_eligible 18 = .ok (.ifCond .eq 9, 3) := by decide +kernel
theorem dX3_eligible_21 : decode cX3_eligible 21 = .ok (.iconst 1, 1) := by decide +kernel
theorem dX3_eligible_22 : decode cX3_eligible 22 = .ok (.iload_n 2, 1) := by decide +kernel
theorem dX3_eligible_23 : decode cX3_eligible 23 = .ok (.ishl, 1) := by decide +kernel
theorem dX3_eligible_24 : decode cX3_eligible 24 = .ok (.goto 4, 3) := by decide +kernel
theorem dX3_eligible_27 : decode cX3_eligible 27 = .ok (.iconst 0, 1) := by decide +kernel
theorem dX3_eligible_28 : decode cX3_eligible 28 = .ok (.ior, 1) := by decide +kernel
theorem dX3_eligible_29 : decode cX3_eligible 29 = .ok (.istore_n 1, 1) := by decide +kernel
theorem dX3_eligible_30 : decode cX3_eligible 30 = .ok (.iinc 2 1, 3) := by decide +kernel
theorem dX3_eligible_33 : decode cX3_eligible 33 = .ok (.goto (-29), 3) := by decide +kernel
theorem dX3_eligible_36 : decode cX3_eligible 36 = .ok (.iload_n 1, 1) := by decide +kernel
theorem dX3_eligible_37 : decode cX3_eligible 37 = .ok (.ireturn, 1) := by decide +kernel
set_option maxRecDepth 20000 in
theorem ggX3_isAny_X3_eligible : GoodIn wsX3_isAny wsX3_eligible := goodIn_r _ [5, 6, 7, 8, 9, 4, 10, 11, 12, 13, 14, 15, 16, 17, 18, 19, 20, 21, 22, 23, 24, 25, 26, 27, 28, 29, 30, 31, 32, 33, 34, 35, 36, 37, 38, 39, 40, 41, 42, 43, 44, 45, 46, 47, 48, 49, 50, 51, 52, 53, 54, 55, 56, 57, 58, 59, 60, 61, 62, 63, 64, 65] (by decide +kernel) (by decide +kernel)
set_option maxRecDepth 20000 in
theorem gX3_isAny_X3_eligible : GoodIn wsX3_isAny (wsV RX3 123 RX3 yX3_eligible wsX3_eligible) := goodIn_app (goodIn_of _ (by decide +kernel)) ggX3_isAny_X3_eligible
theorem dX3_isAny_0 : decode cX3_isAny 0 = .ok (.aload_n 0, 1) := by decide +kernel
theorem dX3_isAny_1 : decode cX3_isAny 1 = .ok (.invokevirtual 123, 3) := by decide +kernel
theorem dX3_isAny_4 : decode cX3_isAny 4 = .ok (.ifCond .eq 7, 3) := by decide +kernel
theorem dX3_isAny_7 : decode cX3_isAny 7 = .ok (.iconst 1, 1) := by decide +kernel
theorem dX3_isAny_8 : decode cX3_isAny 8 = .ok (.goto 4, 3) := by decide +kernel
theorem dX3_isAny_11 : decode cX3_isAny 11 = .ok (.iconst 0, 1) := by decide +kernel
theorem dX3_isAny_12 : decode cX3_isAny 12 = .ok (.ireturn, 1) := by decide +kernel
set_option maxRecDepth 20000 in
theorem ggX3_of_X3_isBond : GoodIn wsX3_of wsX3_isBond := goodIn_r _ [6, 7, 8, 9, 5, 10, 51, 52, 53, 54, 55, 56, 57, 58, 59, 60, 61, 62, 63, 64, 65, 66, 67, 68, 69, 70] (by decide +kernel) (by decide +kernel)
set_option maxRecDepth 20000 in
theorem gX3_of_X3_isBond : GoodIn wsX3_of (wsV RX3 87 RX3 yX3_isBond wsX3_isBond) := goodIn_app (goodIn_of _ (by decide +kernel)) ggX3_of_X3_isBond
set_option maxRecDepth 20000 in
theorem ggX3_of_X3_refuse : GoodIn wsX3_of wsX3_refuse := goodIn_r _ [14, 1, 51, 52, 53, 54, 55, 56, 57, 58, 59, 60, 61, 62, 63, 64, 65, 66, 67, 68, 69, 70] (by decide +kernel) (by decide +kernel)
set_option maxRecDepth 20000 in
theorem gX3_of_X3_refuse : GoodIn wsX3_of (wsV RX3 127 RX3 yX3_refuse wsX3_refuse) := goodIn_app (goodIn_of _ (by decide +kernel)) ggX3_of_X3_refuse
set_option maxRecDepth 20000 in
theorem ggX3_of_X3_of1 : GoodIn wsX3_of wsX3_of1 := goodIn_r _ [18, 19, 51, 52, 53, 54, 55, 56, 57, 58, 59, 60, 61, 62, 63, 64, 65, 66, 67, 68, 69, 70] (by decide +kernel) (by decide +kernel)
set_option maxRecDepth 20000 in
theorem gX3_of_X3_of1 : GoodIn wsX3_of (wsV RX3 95 RX3 yX3_of1 wsX3_of1) := goodIn_app (goodIn_of _ (by decide +kernel)) ggX3_of_X3_of1
set_option maxRecDepth 20000 in
theorem ggX3_of_X3_factor : GoodIn wsX3_of wsX3_factor := goodIn_r _ [23, 24, 25, 26, 27, 28, 5, 29, 15, 16, 17, 18, 19, 30, 31, 32, 33, 34, 35, 36, 37, 38, 39, 40, 41, 42, 51, 52, 53, 54, 55, 56, 57, 58, 59, 60, 61, 62, 63, 64, 65, 66, 67, 68, 69, 70] (by decide +kernel) (by decide +kernel)
set_option maxRecDepth 20000 in
theorem gX3_of_X3_factor : GoodIn wsX3_of (wsV RX3 116 RX3 yX3_factor wsX3_factor) := goodIn_app (goodIn_of _ (by decide +kernel)) ggX3_of_X3_factor
set_option maxRecDepth 20000 in
theorem ggX3_of_X3_isEligible : GoodIn wsX3_of wsX3_isEligible := goodIn_r _ [46, 47, 48, 49, 50, 15, 16, 17, 5, 18, 19, 8, 9, 10, 20, 21, 22, 23, 24, 25, 26, 27, 28, 29, 30, 31, 32, 33, 34, 35, 36, 37, 38, 39, 40, 41, 42, 51, 52, 53, 54, 55, 56, 57, 58, 59, 60, 61, 62, 63, 64, 65, 66, 67, 68, 69, 70] (by decide +kernel) (by decide +kernel)
set_option maxRecDepth 20000 in
theorem gX3_of_X3_isEligible : GoodIn wsX3_of (wsV RX3 120 RX3 yX3_isEligible wsX3_isEligible) := goodIn_app (goodIn_of _ (by decide +kernel)) ggX3_of_X3_isEligible
theorem dX3_of_0 : decode cX3_of 0 = .ok (.aload_n 0, 1) := by decide +kernel
theorem dX3_of_1 : decode cX3_of 1 = .ok (.iconst 0, 1) := by decide +kernel
theorem dX3_of_2 : decode cX3_of 2 = .ok (.putfield 61, 3) := by decide +kernel
theorem dX3_of_5 : decode cX3_of 5 = .ok (.aload_n 0, 1) := by decide +kernel
theorem dX3_of_6 : decode cX3_of 6 = .ok (.iload_n 1, 1) := by decide +kernel
theorem dX3_of_7 : decode cX3_of 7 = .ok (.invokevirtual 87, 3) := by decide +kernel
theorem dX3_of_10 : decode cX3_of 10 = .ok (.ifCond .ne 8, 3) := by decide +kernel
theorem dX3_of_13 : decode cX3_of 13 = .ok (.aload_n 0, 1) := by decide +kernel
theorem dX3_of_14 : decode cX3_of 14 = .ok (.invokevirtual 127, 3) := by decide +kernel
theorem dX3_of_17 : decode cX3_of 17 = .ok (.ireturn, 1) := by decide +kernel
theorem dX3_of_18 : decode cX3_of 18 = .ok (.iload_n 2, 1) := by decide +kernel
theorem dX3_of_19 : decode cX3_of 19 = .ok (.tableswitch 77 0 8 #[49, 49, 49, 49, 49, 49, 49, 56, 63], 49) := by decide +kernel
theorem dX3_of_68 : decode cX3_of 68 = .ok (.aload_n 0, 1) := by decide +kernel
theorem dX3_of_69 : decode cX3_of 69 = .ok (.iload_n 1, 1) := by decide +kernel
theorem dX3_of_70 : decode cX3_of 70 = .ok (.iload_n 2, 1) := by decide +kernel
theorem dX3_of_71 : decode cX3_of 71 = .ok (.invokevirtual 95, 3) := by decide +kernel
theorem dX3_of_74 : decode cX3_of 74 = .ok (.ireturn, 1) := by decide +kernel
theorem dX3_of_75 : decode cX3_of 75 = .ok (.aload_n 0, 1) := by decide +kernel
theorem dX3_of_76 : decode cX3_of 76 = .ok (.iload_n 1, 1) := by decide +kernel
theorem dX3_of_77 : decode cX3_of 77 = .ok (.invokevirtual 116, 3) := by decide +kernel
theorem dX3_of_80 : decode cX3_of 80 = .ok (.l2i, 1) := by decide +kernel
theorem dX3_of_81 : decode cX3_of 81 = .ok (.ireturn, 1) := by decide +kernel
theorem dX3_of_82 : decode cX3_of 82 = .ok (.aload_n 0, 1) := by decide +kernel
theorem dX3_of_83 : decode cX3_of 83 = .ok (.iload_n 1, 1) := by decide +kernel
theorem dX3_of_84 : decode cX3_of 84 = .ok (.invokevirtual 120, 3) := by decide +kernel
theorem dX3_of_87 : decode cX3_of 87 = .ok (.ifCond .eq 7, 3) := by decide +kernel
theorem dX3_of_90 : decode cX3_of 90 = .ok (.iconst 1, 1) := by decide +kernel
theorem dX3_of_91 : decode cX3_of 91 = .ok (.goto 4, 3) := by decide +kernel
theorem dX3_of_94 : decode cX3_of 94 = .ok (.iconst 0, 1) := by decide +kernel
theorem dX3_of_95 : decode cX3_of 95 = .ok (.ireturn, 1) := by decide +kernel
theorem dX3_of_96 : decode cX3_of 96 = .ok (.aload_n 0, 1) := by decide +kernel
theorem dX3_of_97 : decode cX3_of 97 = .ok (.invokevirtual 127, 3) := by decide +kernel
theorem dX3_of_100 : decode cX3_of 100 = .ok (.ireturn, 1) := by decide +kernel
set_option maxRecDepth 20000 in
theorem ggX3_flow_X3_isBond : GoodIn wsX3_flow wsX3_isBond := goodIn_r _ [6, 7, 8, 9, 5, 10, 30, 31, 32, 33, 34, 35, 36, 37, 38, 39, 40, 41, 42, 43, 44, 45, 46, 47, 48, 49] (by decide +kernel) (by decide +kernel)
set_option maxRecDepth 20000 in
theorem gX3_flow_X3_isBond : GoodIn wsX3_flow (wsV RX3 87 RX3 yX3_isBond wsX3_isBond) := goodIn_app (goodIn_of _ (by decide +kernel)) ggX3_flow_X3_isBond
set_option maxRecDepth 20000 in
theorem ggX3_flow_X3_of1 : GoodIn wsX3_flow wsX3_of1 := goodIn_r _ [14, 15, 30, 31, 32, 33, 34, 35, 36, 37, 38, 39, 40, 41, 42, 43, 44, 45, 46, 47, 48, 49] (by decide +kernel) (by decide +kernel)
set_option maxRecDepth 20000 in
theorem gX3_flow_X3_of1 : GoodIn wsX3_flow (wsV RX3 95 RX3 yX3_of1 wsX3_of1) := goodIn_app (goodIn_of _ (by decide +kernel)) ggX3_flow_X3_of1
set_option maxRecDepth 20000 in
theorem ggX3_flow_X3_isIn : GoodIn wsX3_flow wsX3_isIn := goodIn_r _ [10] (by decide +kernel) (by decide +kernel)
set_option maxRecDepth 20000 in
theorem gX3_flow_X3_isIn : GoodIn wsX3_flow (va_wsS RX3 67 yX3_isIn wsX3_isIn) := goodIn_app (goodIn_of _ (by decide +kernel)) ggX3_flow_X3_isIn
set_option maxRecDepth 20000 in
theorem ggX3_flow_X3_flow1 : GoodIn wsX3_flow wsX3_flow1 := goodIn_r _ [19, 20, 11, 12, 13, 5, 14, 15, 21, 22, 23, 24, 25, 26, 27, 28, 29, 30, 31, 32, 33, 34, 35, 36, 37, 38, 39, 40, 41, 42, 43, 44, 45, 46, 47, 48, 49] (by decide +kernel) (by decide +kernel)
set_option maxRecDepth 20000 in
theorem gX3_flow_X3_flow1 : GoodIn wsX3_flow (wsV RX3 110 RX3 yX3_flow1 wsX3_flow1) := goodIn_app (goodIn_of _ (by decide +kernel)) ggX3_flow_X3_flow1
theorem dX3_flow_0 : decode cX3_flow 0 = .ok (.aload_n 0, 1) := by decide +kernel
theorem dX3_flow_1 : decode cX3_flow 1 = .ok (.iconst 0, 1) := by decide +kernel
theorem dX3_flow_2 : decode cX3_flow 2 = .ok (.putfield 61, 3) := by decide +kernel
theorem dX3_flow_5 : decode cX3_flow 5 = .ok (.aload_n 0, 1) := by decide +kernel
theorem dX3_flow_6 : decode cX3_flow 6 = .ok (.iload_n 1, 1) := by decide +kernel
theorem dX3_flow_7 : decode cX3_flow 7 = .ok (.invokevirtual 87, 3) := by decide +kernel
theorem dX3_flow_10 : decode cX3_flow 10 = .ok (.ifCond .eq 29, 3) := by decide +kernel
theorem dX3_flow_13 : decode cX3_flow 13 = .ok (.iload_n 2, 1) := by decide +kernel
theorem dX3_flow_14 : decode cX3_flow 14 = .ok (.i2l, 1) := by decide +kernel
theorem dX3_flow_15 : decode cX3_flow 15 = .ok (.lconst 1, 1) := by decide +kernel
theorem dX3_flow_16 : decode cX3_flow 16 = .ok (.aload_n 0, 1) := by decide +kernel
theorem dX3_flow_17 : decode cX3_flow 17 = .ok (.iload_n 1, 1) := by decide +kernel
theorem dX3_flow_18 : decode cX3_flow 18 = .ok (.iconst 2, 1) := by decide +kernel
theorem dX3_flow_19 : decode cX3_flow 19 = .ok (.invokevirtual 95, 3) := by decide +kernel
theorem dX3_flow_22 : decode cX3_flow 22 = .ok (.i2l, 1) := by decide +kernel
theorem dX3_flow_23 : decode cX3_flow 23 = .ok (.invokestatic 67, 3) := by decide +kernel
theorem dX3_flow_26 : decode cX3_flow 26 = .ok (.ifCond .eq 13, 3) := by decide +kernel
theorem dX3_flow_29 : decode cX3_flow 29 = .ok (.aload_n 0, 1) := by decide +kernel
theorem dX3_flow_30 : decode cX3_flow 30 = .ok (.iload_n 1, 1) := by decide +kernel
theorem dX3_flow_31 : decode cX3_flow 31 = .ok (.iload_n 2, 1) := by decide +kernel
theorem dX3_flow_32 : decode cX3_flow 32 = .ok (.invokevirtual 110, 3) := by decide +kernel
theorem dX3_flow_35 : decode cX3_flow 35 = .ok (.l2i, 1) := by decide +kernel
theorem dX3_flow_36 : decode cX3_flow 36 = .ok (.goto 4, 3) := by decide +kernel
theorem dX3_flow_39 : decode cX3_flow 39 = .ok (.iconst (-1), 1) := by decide +kernel
theorem dX3_flow_40 : decode cX3_flow 40 = .ok (.ireturn, 1) := by decide +kernel
set_option maxRecDepth 20000 in
theorem ggX3_isRate_X3_isIn : GoodIn wsX3_isRate wsX3_isIn := goodIn_r _ [5] (by decide +kernel) (by decide +kernel)
set_option maxRecDepth 20000 in
theorem gX3_isRate_X3_isIn : GoodIn wsX3_isRate (va_wsS RX3 67 yX3_isIn wsX3_isIn) := goodIn_app (goodIn_of _ (by decide +kernel)) ggX3_isRate_X3_isIn
theorem dX3_isRate_0 : decode cX3_isRate 0 = .ok (.iload_n 0, 1) := by decide +kernel
theorem dX3_isRate_1 : decode cX3_isRate 1 = .ok (.i2l, 1) := by decide +kernel
theorem dX3_isRate_2 : decode cX3_isRate 2 = .ok (.lconst 0, 1) := by decide +kernel
theorem dX3_isRate_3 : decode cX3_isRate 3 = .ok (.ldc2_w 130, 3) := by decide +kernel
theorem dX3_isRate_6 : decode cX3_isRate 6 = .ok (.invokestatic 67, 3) := by decide +kernel
theorem dX3_isRate_9 : decode cX3_isRate 9 = .ok (.ireturn, 1) := by decide +kernel
set_option maxRecDepth 20000 in
theorem ggX3_price_X3_isBond : GoodIn wsX3_price wsX3_isBond := goodIn_r _ [6, 7, 8, 9, 5, 10, 42, 43, 44, 45, 46, 47, 48, 49, 50, 51, 52, 53, 54, 55, 56, 57, 58, 59, 60, 61] (by decide +kernel) (by decide +kernel)
set_option maxRecDepth 20000 in
theorem gX3_price_X3_isBond : GoodIn wsX3_price (wsV RX3 87 RX3 yX3_isBond wsX3_isBond) := goodIn_app (goodIn_of _ (by decide +kernel)) ggX3_price_X3_isBond
set_option maxRecDepth 20000 in
theorem ggX3_price_X3_isRate : GoodIn wsX3_price wsX3_isRate := goodIn_r _ [13, 14, 8, 9, 5, 10] (by decide +kernel) (by decide +kernel)
set_option maxRecDepth 20000 in
theorem gX3_price_X3_isRate : GoodIn wsX3_price (va_wsS RX3 132 yX3_isRate wsX3_isRate) := goodIn_app (goodIn_of _ (by decide +kernel)) ggX3_price_X3_isRate
set_option maxRecDepth 20000 in
theorem ggX3_price_X3_price1 : GoodIn wsX3_price wsX3_price1 := goodIn_r _ [18, 19, 20, 21, 5, 22, 23, 24, 25, 26, 27, 28, 29, 30, 31, 32, 33, 34, 35, 36, 37, 38, 39, 40, 41, 42, 43, 44, 45, 46, 47, 48, 49, 50, 51, 52, 53, 54, 55, 56, 57, 58, 59, 60, 61] (by decide +kernel) (by decide +kernel)
set_option maxRecDepth 20000 in
theorem gX3_price_X3_price1 : GoodIn wsX3_price (wsV RX3 135 RX3 yX3_price1 wsX3_price1) := goodIn_app (goodIn_of _ (by decide +kernel)) ggX3_price_X3_price1
theorem dX3_price_0 : decode cX3_price 0 = .ok (.aload_n 0, 1) := by decide +kernel
theorem dX3_price_1 : decode cX3_price 1 = .ok (.iconst 0, 1) := by decide +kernel
theorem dX3_price_2 : decode cX3_price 2 = .ok (.putfield 61, 3) := by decide +kernel
theorem dX3_price_5 : decode cX3_price 5 = .ok (.aload_n 0, 1) := by decide +kernel
theorem dX3_price_6 : decode cX3_price 6 = .ok (.iload_n 1, 1) := by decide +kernel
theorem dX3_price_7 : decode cX3_price 7 = .ok (.invokevirtual 87, 3) := by decide +kernel
theorem dX3_price_10 : decode cX3_price 10 = .ok (.ifCond .eq 20, 3) := by decide +kernel
theorem dX3_price_13 : decode cX3_price 13 = .ok (.iload_n 2, 1) := by decide +kernel
theorem dX3_price_14 : decode cX3_price 14 = .ok (.invokestatic 132, 3) := by decide +kernel
theorem dX3_price_17 : decode cX3_price 17 = .ok (.ifCond .eq 13, 3) := by decide +kernel
theorem dX3_price_20 : decode cX3_price 20 = .ok (.aload_n 0, 1) := by decide +kernel
theorem dX3_price_21 : decode cX3_price 21 = .ok (.iload_n 1, 1) := by decide +kernel
theorem dX3_price_22 : decode cX3_price 22 = .ok (.iload_n 2, 1) := by decide +kernel
theorem dX3_price_23 : decode cX3_price 23 = .ok (.invokevirtual 135, 3) := by decide +kernel
theorem dX3_price_26 : decode cX3_price 26 = .ok (.l2i, 1) := by decide +kernel
theorem dX3_price_27 : decode cX3_price 27 = .ok (.goto 4, 3) := by decide +kernel
theorem dX3_price_30 : decode cX3_price 30 = .ok (.iconst (-1), 1) := by decide +kernel
theorem dX3_price_31 : decode cX3_price 31 = .ok (.ireturn, 1) := by decide +kernel
set_option maxRecDepth 20000 in
theorem ggX3_rateOf_X3_isBond : GoodIn wsX3_rateOf wsX3_isBond := goodIn_r _ [6, 7, 8, 9, 5, 10, 38, 39, 40, 41, 42, 43, 44, 45, 46, 47, 48, 49, 50, 51, 52, 53, 54, 55, 56, 57] (by decide +kernel) (by decide +kernel)
set_option maxRecDepth 20000 in
theorem gX3_rateOf_X3_isBond : GoodIn wsX3_rateOf (wsV RX3 87 RX3 yX3_isBond wsX3_isBond) := goodIn_app (goodIn_of _ (by decide +kernel)) ggX3_rateOf_X3_isBond
set_option maxRecDepth 20000 in
theorem ggX3_rateOf_X3_price1 : GoodIn wsX3_rateOf wsX3_price1 := goodIn_r _ [14, 15, 16, 17, 5, 18, 19, 20, 21, 22, 23, 24, 25, 26, 27, 28, 29, 30, 31, 32, 33, 34, 35, 36, 37, 38, 39, 40, 41, 42, 43, 44, 45, 46, 47, 48, 49, 50, 51, 52, 53, 54, 55, 56, 57] (by decide +kernel) (by decide +kernel)
set_option maxRecDepth 20000 in
theorem gX3_rateOf_X3_price1 : GoodIn wsX3_rateOf (wsV RX3 135 RX3 yX3_price1 wsX3_price1) := goodIn_app (goodIn_of _ (by decide +kernel)) ggX3_rateOf_X3_price1
theorem dX3_rateOf_0 : decode cX3_rateOf 0 = .ok (.aload_n 0, 1) := by decide +kernel
theorem dX3_rateOf_1 : decode cX3_rateOf 1 = .ok (.iconst 0, 1) := by decide +kernel
theorem dX3_rateOf_2 : decode cX3_rateOf 2 = .ok (.putfield 61, 3) := by decide +kernel
theorem dX3_rateOf_5 : decode cX3_rateOf 5 = .ok (.aload_n 0, 1) := by decide +kernel
theorem dX3_rateOf_6 : decode cX3_rateOf 6 = .ok (.iload_n 1, 1) := by decide +kernel
theorem dX3_rateOf_7 : decode cX3_rateOf 7 = .ok (.invokevirtual 87, 3) := by decide +kernel
theorem dX3_rateOf_10 : decode cX3_rateOf 10 = .ok (.ifCond .ne 5, 3) := by decide +kernel
theorem dX3_rateOf_13 : decode cX3_rateOf 13 = .ok (.iconst (-1), 1) := by decide +kernel
theorem dX3_rateOf_14 : decode cX3_rateOf 14 = .ok (.ireturn, 1) := by decide +kernel
theorem dX3_rateOf_15 : decode cX3_rateOf 15 = .ok (.iconst 0, 1) := by decide +kernel
theorem dX3_rateOf_16 : decode cX3_rateOf 16 = .ok (.istore_n 3, 1) := by decide +kernel
theorem dX3_rateOf_17 : decode cX3_rateOf 17 = .ok (.iload_n 3, 1) := by decide +kernel
theorem dX3_rateOf_18 : decode cX3_rateOf 18 = .ok (.sipush 3000, 3) := by decide +kernel
theorem dX3_rateOf_21 : decode cX3_rateOf 21 = .ok (.if_icmp .gt 23, 3) := by decide +kernel
theorem dX3_rateOf_24 : decode cX3_rateOf 24 = .ok (.aload_n 0, 1) := by decide +kernel
theorem dX3_rateOf_25 : decode cX3_rateOf 25 = .ok (.iload_n 1, 1) := by decide +kernel
theorem dX3_rateOf_26 : decode cX3_rateOf 26 = .ok (.iload_n 3, 1) := by decide +kernel
theorem dX3_rateOf_27 : decode cX3_rateOf 27 = .ok (.invokevirtual 135, 3) := by decide +kernel
theorem dX3_rateOf_30 : decode cX3_rateOf 30 = .ok (.iload_n 2, 1) := by decide +kernel
theorem dX3_rateOf_31 : decode cX3_rateOf 31 = .ok (.i2l, 1) := by decide +kernel
theorem dX3_rateOf_32 : decode cX3_rateOf 32 = .ok (.lcmp, 1) := by decide +kernel
theorem dX3_rateOf_33 : decode cX3_rateOf 33 = .ok (.ifCond .gt 5, 3) := by decide +kernel
theorem dX3_rateOf_36 : decode cX3_rateOf 36 = .ok (.iload_n 3, 1) := by decide +kernel
theorem dX3_rateOf_37 : decode cX3_rateOf 37 = .ok (.ireturn, 1) := by decide +kernel
theorem dX3_rateOf_38 : decode cX3_rateOf 38 = .ok (.iinc 3 1, 3) := by decide +kernel
theorem dX3_rateOf_41 : decode cX3_rateOf 41 = .ok (.goto (-24), 3) := by decide +kernel
theorem dX3_rateOf_44 : decode cX3_rateOf 44 = .ok (.iconst (-1), 1) := by decide +kernel
theorem dX3_rateOf_45 : decode cX3_rateOf 45 = .ok (.ireturn, 1) := by decide +kernel
set_option maxRecDepth 20000 in
theorem ggX3_contract_X3_isRate : GoodIn wsX3_contract wsX3_isRate := goodIn_r _ [9, 10, 11, 12, 8, 13] (by decide +kernel) (by decide +kernel)
set_option maxRecDepth 20000 in
theorem gX3_contract_X3_isRate : GoodIn wsX3_contract (va_wsS RX3 132 yX3_isRate wsX3_isRate) := goodIn_app (goodIn_of _ (by decide +kernel)) ggX3_contract_X3_isRate
set_option maxRecDepth 20000 in
theorem ggX3_contract_X3_isIn : GoodIn wsX3_contract wsX3_isIn := goodIn_r _ [13] (by decide +kernel) (by decide +kernel)
set_option maxRecDepth 20000 in
theorem gX3_contract_X3_isIn : GoodIn wsX3_contract (va_wsS RX3 67 yX3_isIn wsX3_isIn) := goodIn_app (goodIn_of _ (by decide +kernel)) ggX3_contract_X3_isIn
theorem dX3_contract_0 : decode cX3_contract 0 = .ok (.aload_n 0, 1) := by decide +kernel
theorem dX3_contract_1 : decode cX3_contract 1 = .ok (.iconst 0, 1) := by decide +kernel
theorem dX3_contract_2 : decode cX3_contract 2 = .ok (.putfield 61, 3) := by decide +kernel
theorem dX3_contract_5 : decode cX3_contract 5 = .ok (.iload_n 1, 1) := by decide +kernel
theorem dX3_contract_6 : decode cX3_contract 6 = .ok (.invokestatic 132, 3) := by decide +kernel
theorem dX3_contract_9 : decode cX3_contract 9 = .ok (.ifCond .eq 28, 3) := by decide +kernel
theorem dX3_contract_12 : decode cX3_contract 12 = .ok (.iload_n 2, 1) := by decide +kernel
theorem dX3_contract_13 : decode cX3_contract 13 = .ok (.i2l, 1) := by decide +kernel
theorem dX3_contract_14 : decode cX3_contract 14 = .ok (.lconst 1, 1) := by decide +kernel
theorem dX3_contract_15 : decode cX3_contract 15 = .ok (.ldc2_w 75, 3) := by decide +kernel
theorem dX3_contract_18 : decode cX3_contract 18 = .ok (.invokestatic 67, 3) := by decide +kernel
theorem dX3_contract_21 : decode cX3_contract 21 = .ok (.ifCond .eq 16, 3) := by decide +kernel
theorem dX3_contract_24 : decode cX3_contract 24 = .ok (.iload_n 3, 1) := by decide +kernel
theorem dX3_contract_25 : decode cX3_contract 25 = .ok (.i2l, 1) := by decide +kernel
theorem dX3_contract_26 : decode cX3_contract 26 = .ok (.iload_n 2, 1) := by decide +kernel
theorem dX3_contract_27 : decode cX3_contract 27 = .ok (.i2l, 1) := by decide +kernel
theorem dX3_contract_28 : decode cX3_contract 28 = .ok (.ldc2_w 75, 3) := by decide +kernel
theorem dX3_contract_31 : decode cX3_contract 31 = .ok (.invokestatic 67, 3) := by decide +kernel
theorem dX3_contract_34 : decode cX3_contract 34 = .ok (.ifCond .ne 5, 3) := by decide +kernel
theorem dX3_contract_37 : decode cX3_contract 37 = .ok (.iconst 0, 1) := by decide +kernel
theorem dX3_contract_38 : decode cX3_contract 38 = .ok (.ireturn, 1) := by decide +kernel
theorem dX3_contract_39 : decode cX3_contract 39 = .ok (.aload_n 0, 1) := by decide +kernel
theorem dX3_contract_40 : decode cX3_contract 40 = .ok (.getfield 13, 3) := by decide +kernel
theorem dX3_contract_43 : decode cX3_contract 43 = .ok (.iload_n 1, 1) := by decide +kernel
theorem dX3_contract_44 : decode cX3_contract 44 = .ok (.if_icmp .ne 21, 3) := by decide +kernel
theorem dX3_contract_47 : decode cX3_contract 47 = .ok (.aload_n 0, 1) := by decide +kernel
theorem dX3_contract_48 : decode cX3_contract 48 = .ok (.getfield 17, 3) := by decide +kernel
theorem dX3_contract_51 : decode cX3_contract 51 = .ok (.iload_n 2, 1) := by decide +kernel
theorem dX3_contract_52 : decode cX3_contract 52 = .ok (.if_icmp .ne 13, 3) := by decide +kernel
theorem dX3_contract_55 : decode cX3_contract 55 = .ok (.aload_n 0, 1) := by decide +kernel
theorem dX3_contract_56 : decode cX3_contract 56 = .ok (.getfield 20, 3) := by decide +kernel
theorem dX3_contract_59 : decode cX3_contract 59 = .ok (.iload_n 3, 1) := by decide +kernel
theorem dX3_contract_60 : decode cX3_contract 60 = .ok (.if_icmp .ne 5, 3) := by decide +kernel
theorem dX3_contract_63 : decode cX3_contract 63 = .ok (.iconst 0, 1) := by decide +kernel
theorem dX3_contract_64 : decode cX3_contract 64 = .ok (.ireturn, 1) := by decide +kernel
theorem dX3_contract_65 : decode cX3_contract 65 = .ok (.aload_n 0, 1) := by decide +kernel
theorem dX3_contract_66 : decode cX3_contract 66 = .ok (.iload_n 1, 1) := by decide +kernel
theorem dX3_contract_67 : decode cX3_contract 67 = .ok (.putfield 13, 3) := by decide +kernel
theorem dX3_contract_70 : decode cX3_contract 70 = .ok (.aload_n 0, 1) := by decide +kernel
theorem dX3_contract_71 : decode cX3_contract 71 = .ok (.iload_n 2, 1) := by decide +kernel
theorem dX3_contract_72 : decode cX3_contract 72 = .ok (.putfield 17, 3) := by decide +kernel
theorem dX3_contract_75 : decode cX3_contract 75 = .ok (.aload_n 0, 1) := by decide +kernel
theorem dX3_contract_76 : decode cX3_contract 76 = .ok (.iload_n 3, 1) := by decide +kernel
theorem dX3_contract_77 : decode cX3_contract 77 = .ok (.putfield 20, 3) := by decide +kernel
theorem dX3_contract_80 : decode cX3_contract 80 = .ok (.iconst 1, 1) := by decide +kernel
theorem dX3_contract_81 : decode cX3_contract 81 = .ok (.ireturn, 1) := by decide +kernel
set_option maxRecDepth 20000 in
theorem ggX3_stocks_X3_isEligible : GoodIn wsX3_stocks wsX3_isEligible := goodIn_r _ [6, 7, 8, 9, 10, 11, 12, 13, 5, 14, 15, 16, 17, 18, 19, 20, 21, 22, 23, 24, 25, 26, 27, 28, 29, 30, 31, 32, 33, 34, 35, 36, 37, 38, 39, 40, 41, 42, 43, 44, 45, 46, 47, 48, 49, 50, 51, 52, 53, 54, 55, 56, 57, 58, 59, 60, 61] (by decide +kernel) (by decide +kernel)
set_option maxRecDepth 20000 in
theorem gX3_stocks_X3_isEligible : GoodIn wsX3_stocks (wsV RX3 120 RX3 yX3_isEligible wsX3_isEligible) := goodIn_app (goodIn_of _ (by decide +kernel)) ggX3_stocks_X3_isEligible
set_option maxRecDepth 20000 in
theorem ggX3_stocks_X3_of1 : GoodIn wsX3_stocks wsX3_of1 := goodIn_r _ [14, 15, 42, 43, 44, 45, 46, 47, 48, 49, 50, 51, 52, 53, 54, 55, 56, 57, 58, 59, 60, 61] (by decide +kernel) (by decide +kernel)
set_option maxRecDepth 20000 in
theorem gX3_stocks_X3_of1 : GoodIn wsX3_stocks (wsV RX3 95 RX3 yX3_of1 wsX3_of1) := goodIn_app (goodIn_of _ (by decide +kernel)) ggX3_stocks_X3_of1
theorem dX3_stocks_0 : decode cX3_stocks 0 = .ok (.iconst 0, 1) := by decide +kernel
theorem dX3_stocks_1 : decode cX3_stocks 1 = .ok (.istore_n 1, 1) := by decide +kernel
theorem dX3_stocks_2 : decode cX3_stocks 2 = .ok (.iconst 0, 1) := by decide +kernel
theorem dX3_stocks_3 : decode cX3_stocks 3 = .ok (.istore_n 2, 1) := by decide +kernel
theorem dX3_stocks_4 : decode cX3_stocks 4 = .ok (.iload_n 2, 1) := by decide +kernel
theorem dX3_stocks_5 : decode cX3_stocks 5 = .ok (.aload_n 0, 1) := by decide +kernel
theorem dX3_stocks_6 : decode cX3_stocks 6 = .ok (.getfield 64, 3) := by decide +kernel
theorem dX3_stocks_9 : decode cX3_stocks 9 = .ok (.if_icmp .ge 30, 3) := by decide +kernel
theorem dX3_stocks_12 : decode cX3_stocks 12 = .ok (.iload_n 1, 1) := by decide +kernel
theorem dX3_stocks_13 : decode cX3_stocks 13 = .ok (.aload_n 0, 1) := by decide +kernel
theorem dX3_stocks_14 : decode cX3_stocks 14 = .ok (.iload_n 2, 1) := by decide +kernel
theorem dX3_stocks_15 : decode cX3_stocks 15 = .ok (.invokevirtual 120, 3) := by decide +kernel
theorem dX3_stocks_18 : decode cX3_stocks 18 = .ok (.ifCond .eq 12, 3) := by decide +kernel
theorem dX3_stocks_21 : decode cX3_stocks 21 = .ok (.aload_n 0, 1) := by decide +kernel
theorem dX3_stocks_22 : decode cX3_stocks 22 = .ok (.iload_n 2, 1) := by decide +kernel
theorem dX3_stocks_23 : decode cX3_stocks 23 = .ok (.iconst 5, 1) := by decide +kernel
theorem dX3_stocks_24 : decode cX3_stocks 24 = .ok (.invokevirtual 95, 3) := by decide +kernel
theorem dX3_stocks_27 : decode cX3_stocks 27 = .ok (.goto 4, 3) := by decide +kernel
theorem dX3_stocks_30 : decode cX3_stocks 30 = .ok (.iconst 0, 1) := by decide +kernel
theorem dX3_stocks_31 : decode cX3_stocks 31 = .ok (.iadd, 1) := by decide +kernel
theorem dX3_stocks_32 : decode cX3_stocks 32 = .ok (.istore_n 1, 1) := by decide +kernel
theorem dX3_stocks_33 : decode cX3_stocks 33 = .ok (.iinc 2 1, 3) := by decide +kernel
theorem dX3_stocks_36 : decode cX3_stocks 36 = .ok (.goto (-32), 3) := by decide +kernel
theorem dX3_stocks_39 : decode cX3_stocks 39 = .ok (.iload_n 1, 1) := by decide +kernel
theorem dX3_stocks_40 : decode cX3_stocks 40 = .ok (.ireturn, 1) := by decide +kernel
set_option maxRecDepth 20000 in
theorem ggX3_count_X3_eligible : GoodIn wsX3_count wsX3_eligible := goodIn_r _ [15, 2, 16, 17, 18, 14, 19, 20, 21, 4, 5, 22, 23, 24, 25, 26, 27, 28, 29, 30, 31, 32, 33, 3, 34, 35, 36, 37, 38, 39, 40, 41, 42, 43, 44, 45, 46, 47, 48, 49, 50, 51, 56, 57, 58, 59, 60, 61, 62, 63, 64, 65, 66, 67, 68, 69, 70, 71, 72, 73, 74, 75] (by decide +kernel) (by decide +kernel)
set_option maxRecDepth 20000 in
theorem gX3_count_X3_eligible : GoodIn wsX3_count (wsV RX3 123 RX3 yX3_eligible wsX3_eligible) := goodIn_app (goodIn_of _ (by decide +kernel)) ggX3_count_X3_eligible
set_option maxRecDepth 20000 in
theorem ggX3_count_X3_stocks : GoodIn wsX3_count wsX3_stocks := goodIn_r _ [55, 2, 16, 17, 18, 14, 19, 20, 21, 4, 5, 22, 23, 24, 25, 26, 27, 28, 29, 30, 31, 32, 33, 3, 34, 35, 36, 37, 38, 39, 40, 41, 42, 43, 44, 45, 46, 47, 48, 49, 50, 51, 56, 57, 58, 59, 60, 61, 62, 63, 64, 65, 66, 67, 68, 69, 70, 71, 72, 73, 74, 75] (by decide +kernel) (by decide +kernel)
set_option maxRecDepth 20000 in
theorem gX3_count_X3_stocks : GoodIn wsX3_count (wsV RX3 138 RX3 yX3_stocks wsX3_stocks) := goodIn_app (goodIn_of _ (by decide +kernel)) ggX3_count_X3_stocks
theorem dX3_count_0 : decode cX3_count 0 = .ok (.aload_n 0, 1) := by decide +kernel
theorem dX3_count_1 : decode cX3_count 1 = .ok (.iconst 0, 1) := by decide +kernel
theorem dX3_count_2 : decode cX3_count 2 = .ok (.putfield 61, 3) := by decide +kernel
theorem dX3_count_5 : decode cX3_count 5 = .ok (.iload_n 1, 1) := by decide +kernel
theorem dX3_count_6 : decode cX3_count 6 = .ok (.tableswitch 113 0 10 #[58, 63, 68, 73, 78, 83, 88, 93, 98, 103, 108], 58) := by decide +kernel
theorem dX3_count_64 : decode cX3_count 64 = .ok (.aload_n 0, 1) := by decide +kernel
theorem dX3_count_65 : decode cX3_count 65 = .ok (.getfield 64, 3) := by decide +kernel
theorem dX3_count_68 : decode cX3_count 68 = .ok (.ireturn, 1) := by decide +kernel
theorem dX3_count_69 : decode cX3_count 69 = .ok (.aload_n 0, 1) := by decide +kernel
theorem dX3_count_70 : decode cX3_count 70 = .ok (.invokevirtual 123, 3) := by decide +kernel
theorem dX3_count_73 : decode cX3_count 73 = .ok (.ireturn, 1) := by decide +kernel
theorem dX3_count_74 : decode cX3_count 74 = .ok (.aload_n 0, 1) := by decide +kernel
theorem dX3_count_75 : decode cX3_count 75 = .ok (.getfield 13, 3) := by decide +kernel
theorem dX3_count_78 : decode cX3_count 78 = .ok (.ireturn, 1) := by decide +kernel
theorem dX3_count_79 : decode cX3_count 79 = .ok (.aload_n 0, 1) := by decide +kernel
theorem dX3_count_80 : decode cX3_count 80 = .ok (.getfield 17, 3) := by decide +kernel
theorem dX3_count_83 : decode cX3_count 83 = .ok (.ireturn, 1) := by decide +kernel
theorem dX3_count_84 : decode cX3_count 84 = .ok (.aload_n 0, 1) := by decide +kernel
theorem dX3_count_85 : decode cX3_count 85 = .ok (.getfield 20, 3) := by decide +kernel
theorem dX3_count_88 : decode cX3_count 88 = .ok (.ireturn, 1) := by decide +kernel
theorem dX3_count_89 : decode cX3_count 89 = .ok (.aload_n 0, 1) := by decide +kernel
theorem dX3_count_90 : decode cX3_count 90 = .ok (.invokevirtual 138, 3) := by decide +kernel
theorem dX3_count_93 : decode cX3_count 93 = .ok (.ireturn, 1) := by decide +kernel
theorem dX3_count_94 : decode cX3_count 94 = .ok (.aload_n 0, 1) := by decide +kernel
theorem dX3_count_95 : decode cX3_count 95 = .ok (.getfield 141, 3) := by decide +kernel
theorem dX3_count_98 : decode cX3_count 98 = .ok (.ireturn, 1) := by decide +kernel
theorem dX3_count_99 : decode cX3_count 99 = .ok (.aload_n 0, 1) := by decide +kernel
theorem dX3_count_100 : decode cX3_count 100 = .ok (.getfield 23, 3) := by decide +kernel
theorem dX3_count_103 : decode cX3_count 103 = .ok (.ireturn, 1) := by decide +kernel
theorem dX3_count_104 : decode cX3_count 104 = .ok (.aload_n 0, 1) := by decide +kernel
theorem dX3_count_105 : decode cX3_count 105 = .ok (.getfield 26, 3) := by decide +kernel
theorem dX3_count_108 : decode cX3_count 108 = .ok (.ireturn, 1) := by decide +kernel
theorem dX3_count_109 : decode cX3_count 109 = .ok (.aload_n 0, 1) := by decide +kernel
theorem dX3_count_110 : decode cX3_count 110 = .ok (.getfield 144, 3) := by decide +kernel
theorem dX3_count_113 : decode cX3_count 113 = .ok (.ireturn, 1) := by decide +kernel
theorem dX3_count_114 : decode cX3_count 114 = .ok (.aload_n 0, 1) := by decide +kernel
theorem dX3_count_115 : decode cX3_count 115 = .ok (.getfield 30, 3) := by decide +kernel
theorem dX3_count_118 : decode cX3_count 118 = .ok (.ireturn, 1) := by decide +kernel
theorem dX3_count_119 : decode cX3_count 119 = .ok (.iconst (-1), 1) := by decide +kernel
theorem dX3_count_120 : decode cX3_count 120 = .ok (.ireturn, 1) := by decide +kernel
set_option maxRecDepth 20000 in
theorem ggX3_isDearer_X3_price1 : GoodIn wsX3_isDearer wsX3_price1 := goodIn_r _ [5, 6, 7, 8, 4, 9, 10, 11, 12, 13, 14, 15, 16, 17, 18, 19, 20, 21, 22, 23, 24, 25, 26, 27, 28, 34, 35, 36, 37, 38, 39, 40, 41, 42, 43, 44, 45, 46, 47, 48, 49, 50, 51, 52, 53] (by decide +kernel) (by decide +kernel)
set_option maxRecDepth 20000 in
theorem gX3_isDearer_X3_price1 : GoodIn wsX3_isDearer (wsV RX3 135 RX3 yX3_price1 wsX3_price1) := goodIn_app (goodIn_of _ (by decide +kernel)) ggX3_isDearer_X3_price1
set_option maxRecDepth 20000 in
theorem ggX3_isDearer_X3_factor : GoodIn wsX3_isDearer wsX3_factor := goodIn_r _ [32, 33, 15, 11, 12, 13, 4, 14, 6, 7, 8, 9, 10, 16, 17, 18, 19, 20, 21, 22, 23, 24, 25, 26, 27, 28, 34, 35, 36, 37, 38, 39, 40, 41, 42, 43, 44, 45, 46, 47, 48, 49, 50, 51, 52, 53] (by decide +kernel) (by decide +kernel)
set_option maxRecDepth 20000 in
theorem gX3_isDearer_X3_factor : GoodIn wsX3_isDearer (wsV RX3 116 RX3 yX3_factor wsX3_factor) := goodIn_app (goodIn_of _ (by decide +kernel)) ggX3_isDearer_X3_factor
theorem dX3_isDearer_0 : decode cX3_isDearer 0 = .ok (.aload_n 0, 1) := by decide +kernel
theorem dX3_isDearer_1 : decode cX3_isDearer 1 = .ok (.iload_n 1, 1) := by decide +kernel
theorem dX3_isDearer_2 : decode cX3_isDearer 2 = .ok (.iload_n 3, 1) := by decide +kernel
theorem dX3_isDearer_3 : decode cX3_isDearer 3 = .ok (.invokevirtual 135, 3) := by decide +kernel
theorem dX3_isDearer_6 : decode cX3_isDearer 6 = .ok (.aload_n 0, 1) := by decide +kernel
theorem dX3_isDearer_7 : decode cX3_isDearer 7 = .ok (.iload_n 2, 1) := by decide +kernel
theorem dX3_isDearer_8 : decode cX3_isDearer 8 = .ok (.invokevirtual 116, 3) := by decide +kernel
theorem dX3_isDearer_11 : decode cX3_isDearer 11 = .ok (.lmul, 1) := by decide +kernel
theorem dX3_isDearer_12 : decode cX3_isDearer 12 = .ok (.aload_n 0, 1) := by decide +kernel
theorem dX3_isDearer_13 : decode cX3_isDearer 13 = .ok (.iload_n 2, 1) := by decide +kernel
theorem dX3_isDearer_14 : decode cX3_isDearer 14 = .ok (.iload_n 3, 1) := by decide +kernel
theorem dX3_isDearer_15 : decode cX3_isDearer 15 = .ok (.invokevirtual 135, 3) := by decide +kernel
theorem dX3_isDearer_18 : decode cX3_isDearer 18 = .ok (.aload_n 0, 1) := by decide +kernel
theorem dX3_isDearer_19 : decode cX3_isDearer 19 = .ok (.iload_n 1, 1) := by decide +kernel
theorem dX3_isDearer_20 : decode cX3_isDearer 20 = .ok (.invokevirtual 116, 3) := by decide +kernel
theorem dX3_isDearer_23 : decode cX3_isDearer 23 = .ok (.lmul, 1) := by decide +kernel
theorem dX3_isDearer_24 : decode cX3_isDearer 24 = .ok (.lcmp, 1) := by decide +kernel
theorem dX3_isDearer_25 : decode cX3_isDearer 25 = .ok (.ifCond .le 7, 3) := by decide +kernel
theorem dX3_isDearer_28 : decode cX3_isDearer 28 = .ok (.iconst 1, 1) := by decide +kernel
theorem dX3_isDearer_29 : decode cX3_isDearer 29 = .ok (.goto 4, 3) := by decide +kernel
theorem dX3_isDearer_32 : decode cX3_isDearer 32 = .ok (.iconst 0, 1) := by decide +kernel
theorem dX3_isDearer_33 : decode cX3_isDearer 33 = .ok (.ireturn, 1) := by decide +kernel
set_option maxRecDepth 20000 in
theorem ggX3_cheapest1_X3_isEligible : GoodIn wsX3_cheapest1 wsX3_isEligible := goodIn_r _ [6, 7, 8, 9, 10, 11, 12, 13, 5, 14, 15, 16, 17, 18, 19, 20, 21, 22, 23, 24, 25, 26, 27, 28, 29, 30, 31, 32, 33, 34, 35, 36, 37, 38, 39, 40, 41, 50, 51, 52, 53, 54, 55, 56, 57, 58, 59, 60, 61, 62, 63, 64, 65, 66, 67, 68, 69] (by decide +kernel) (by decide +kernel)
set_option maxRecDepth 20000 in
theorem gX3_cheapest1_X3_isEligible : GoodIn wsX3_cheapest1 (wsV RX3 120 RX3 yX3_isEligible wsX3_isEligible) := goodIn_app (goodIn_of _ (by decide +kernel)) ggX3_cheapest1_X3_isEligible
set_option maxRecDepth 20000 in
theorem ggX3_cheapest1_X3_isDearer : GoodIn wsX3_cheapest1 wsX3_isDearer := goodIn_r _ [45, 46, 47, 48, 5, 49, 11, 12, 13, 14, 15, 25, 26, 27, 28, 24, 29, 30, 31, 32, 33, 34, 35, 36, 37, 38, 39, 40, 41, 19, 20, 21, 22, 23, 50, 51, 52, 53, 54, 55, 56, 57, 58, 59, 60, 61, 62, 63, 64, 65, 66, 67, 68, 69] (by decide +kernel) (by decide +kernel)
set_option maxRecDepth 20000 in
theorem gX3_cheapest1_X3_isDearer : GoodIn wsX3_cheapest1 (wsV RX3 147 RX3 yX3_isDearer wsX3_isDearer) := goodIn_app (goodIn_of _ (by decide +kernel)) ggX3_cheapest1_X3_isDearer
theorem dX3_cheapest1_0 : decode cX3_cheapest1 0 = .ok (.iconst (-1), 1) := by decide +kernel
theorem dX3_cheapest1_1 : decode cX3_cheapest1 1 = .ok (.istore_n 2, 1) := by decide +kernel
theorem dX3_cheapest1_2 : decode cX3_cheapest1 2 = .ok (.iconst 0, 1) := by decide +kernel
theorem dX3_cheapest1_3 : decode cX3_cheapest1 3 = .ok (.istore_n 3, 1) := by decide +kernel
theorem dX3_cheapest1_4 : decode cX3_cheapest1 4 = .ok (.iload_n 3, 1) := by decide +kernel
theorem dX3_cheapest1_5 : decode cX3_cheapest1 5 = .ok (.aload_n 0, 1) := by decide +kernel
theorem dX3_cheapest1_6 : decode cX3_cheapest1 6 = .ok (.getfield 64, 3) := by decide +kernel
theorem dX3_cheapest1_9 : decode cX3_cheapest1 9 = .ok (.if_icmp .ge 34, 3) := by decide +kernel
theorem dX3_cheapest1_12 : decode cX3_cheapest1 12 = .ok (.aload_n 0, 1) := by decide +kernel
theorem dX3_cheapest1_13 : decode cX3_cheapest1 13 = .ok (.iload_n 3, 1) := by decide +kernel
theorem dX3_cheapest1_14 : decode cX3_cheapest1 14 = .ok (.invokevirtual 120, 3) := by decide +kernel
theorem dX3_cheapest1_17 : decode cX3_cheapest1 17 = .ok (.ifCond .eq 20, 3) := by decide +kernel
theorem dX3_cheapest1_20 : decode cX3_cheapest1 20 = .ok (.iload_n 2, 1) := by decide +kernel
theorem dX3_cheapest1_21 : decode cX3_cheapest1 21 = .ok (.iconst (-1), 1) := by decide +kernel
theorem dX3_cheapest1_22 : decode cX3_cheapest1 22 = .ok (.if_icmp .eq 13, 3) := by decide +kernel
theorem dX3_cheapest1_25 : decode cX3_cheapest1 25 = .ok (.aload_n 0, 1) := by decide +kernel
theorem dX3_cheapest1_26 : decode cX3_cheapest1 26 = .ok (.iload_n 2, 1) := by decide +kernel
theorem dX3_cheapest1_27 : decode cX3_cheapest1 27 = .ok (.iload_n 3, 1) := by decide +kernel
theorem dX3_cheapest1_28 : decode cX3_cheapest1 28 = .ok (.iload_n 1, 1) := by decide +kernel
theorem dX3_cheapest1_29 : decode cX3_cheapest1 29 = .ok (.invokevirtual 147, 3) := by decide +kernel
theorem dX3_cheapest1_32 : decode cX3_cheapest1 32 = .ok (.ifCond .eq 5, 3) := by decide +kernel
theorem dX3_cheapest1_35 : decode cX3_cheapest1 35 = .ok (.iload_n 3, 1) := by decide +kernel
theorem dX3_cheapest1_36 : decode cX3_cheapest1 36 = .ok (.istore_n 2, 1) := by decide +kernel
theorem dX3_cheapest1_37 : decode cX3_cheapest1 37 = .ok (.iinc 3 1, 3) := by decide +kernel
theorem dX3_cheapest1_40 : decode cX3_cheapest1 40 = .ok (.goto (-36), 3) := by decide +kernel
theorem dX3_cheapest1_43 : decode cX3_cheapest1 43 = .ok (.iload_n 2, 1) := by decide +kernel
theorem dX3_cheapest1_44 : decode cX3_cheapest1 44 = .ok (.ireturn, 1) := by decide +kernel
set_option maxRecDepth 20000 in
theorem ggX3_cheapest_X3_isRate : GoodIn wsX3_cheapest wsX3_isRate := goodIn_r _ [5, 6, 7, 8, 4, 9] (by decide +kernel) (by decide +kernel)
set_option maxRecDepth 20000 in
theorem gX3_cheapest_X3_isRate : GoodIn wsX3_cheapest (va_wsS RX3 132 yX3_isRate wsX3_isRate) := goodIn_app (goodIn_of _ (by decide +kernel)) ggX3_cheapest_X3_isRate
set_option maxRecDepth 20000 in
theorem ggX3_cheapest_X3_cheapest1 : GoodIn wsX3_cheapest wsX3_cheapest1 := goodIn_r _ [13, 14, 15, 16, 17, 4, 18, 19, 20, 21, 22, 23, 24, 25, 26, 27, 7, 8, 9, 28, 29, 30, 31, 32, 33, 34, 35, 36, 37, 38, 39, 40, 41, 42, 43, 44, 45, 46, 47, 48, 49, 50, 51, 52, 53, 54, 55, 56, 57, 58, 59, 60, 61, 62, 63, 64, 65, 66, 67, 68, 69, 70, 71, 72, 73, 74, 75, 76, 77, 78] (by decide +kernel) (by decide +kernel)
set_option maxRecDepth 20000 in
theorem gX3_cheapest_X3_cheapest1 : GoodIn wsX3_cheapest (wsV RX3 151 RX3 yX3_cheapest1 wsX3_cheapest1) := goodIn_app (goodIn_of _ (by decide +kernel)) ggX3_cheapest_X3_cheapest1
theorem dX3_cheapest_0 : decode cX3_cheapest 0 = .ok (.aload_n 0, 1) := by decide +kernel
theorem dX3_cheapest_1 : decode cX3_cheapest 1 = .ok (.iconst 0, 1) := by decide +kernel
theorem dX3_cheapest_2 : decode cX3_cheapest 2 = .ok (.putfield 61, 3) := by decide +kernel
theorem dX3_cheapest_5 : decode cX3_cheapest 5 = .ok (.iload_n 1, 1) := by decide +kernel
theorem dX3_cheapest_6 : decode cX3_cheapest 6 = .ok (.invokestatic 132, 3) := by decide +kernel
theorem dX3_cheapest_9 : decode cX3_cheapest 9 = .ok (.ifCond .eq 11, 3) := by decide +kernel
theorem dX3_cheapest_12 : decode cX3_cheapest 12 = .ok (.aload_n 0, 1) := by decide +kernel
theorem dX3_cheapest_13 : decode cX3_cheapest 13 = .ok (.iload_n 1, 1) := by decide +kernel
theorem dX3_cheapest_14 : decode cX3_cheapest 14 = .ok (.invokevirtual 151, 3) := by decide +kernel
theorem dX3_cheapest_17 : decode cX3_cheapest 17 = .ok (.goto 4, 3) := by decide +kernel
theorem dX3_cheapest_20 : decode cX3_cheapest 20 = .ok (.iconst (-1), 1) := by decide +kernel
theorem dX3_cheapest_21 : decode cX3_cheapest 21 = .ok (.ireturn, 1) := by decide +kernel
set_option maxRecDepth 20000 in
theorem ggX3_ranked_X3_isRate : GoodIn wsX3_ranked wsX3_isRate := goodIn_r _ [6, 7, 8, 9, 5, 10] (by decide +kernel) (by decide +kernel)
set_option maxRecDepth 20000 in
theorem gX3_ranked_X3_isRate : GoodIn wsX3_ranked (va_wsS RX3 132 yX3_isRate wsX3_isRate) := goodIn_app (goodIn_of _ (by decide +kernel)) ggX3_ranked_X3_isRate
set_option maxRecDepth 20000 in
theorem ggX3_ranked_X3_isEligible : GoodIn wsX3_ranked wsX3_isEligible := goodIn_r _ [14, 15, 16, 17, 18, 19, 20, 21, 5, 22, 23, 8, 9, 10, 24, 25, 26, 27, 28, 29, 30, 31, 32, 33, 34, 35, 36, 37, 38, 39, 40, 41, 42, 43, 44, 45, 46, 55, 56, 57, 58, 59, 60, 61, 62, 63, 64, 65, 66, 67, 68, 69, 70, 71, 72, 73, 74] (by decide +kernel) (by decide +kernel)
set_option maxRecDepth 20000 in
theorem gX3_ranked_X3_isEligible : GoodIn wsX3_ranked (wsV RX3 120 RX3 yX3_isEligible wsX3_isEligible) := goodIn_app (goodIn_of _ (by decide +kernel)) ggX3_ranked_X3_isEligible
set_option maxRecDepth 20000 in
theorem ggX3_ranked_X3_isDearer : GoodIn wsX3_ranked wsX3_isDearer := goodIn_r _ [50, 51, 52, 53, 5, 54, 19, 20, 21, 22, 23, 30, 31, 32, 33, 29, 34, 35, 36, 37, 38, 39, 40, 41, 42, 43, 44, 45, 46, 24, 25, 26, 27, 28, 55, 56, 57, 58, 59, 60, 61, 62, 63, 64, 65, 66, 67, 68, 69, 70, 71, 72, 73, 74] (by decide +kernel) (by decide +kernel)
set_option maxRecDepth 20000 in
theorem gX3_ranked_X3_isDearer : GoodIn wsX3_ranked (wsV RX3 147 RX3 yX3_isDearer wsX3_isDearer) := goodIn_app (goodIn_of _ (by decide +kernel)) ggX3_ranked_X3_isDearer
theorem dX3_ranked_0 : decode cX3_ranked 0 = .ok (.aload_n 0, 1) := by decide +kernel
theorem dX3_ranked_1 : decode cX3_ranked 1 = .ok (.iconst 0, 1) := by decide +kernel
theorem dX3_ranked_2 : decode cX3_ranked 2 = .ok (.putfield 61, 3) := by decide +kernel
theorem dX3_ranked_5 : decode cX3_ranked 5 = .ok (.iload_n 1, 1) := by decide +kernel
theorem dX3_ranked_6 : decode cX3_ranked 6 = .ok (.invokestatic 132, 3) := by decide +kernel
theorem dX3_ranked_9 : decode cX3_ranked 9 = .ok (.ifCond .ne 5, 3) := by decide +kernel
theorem dX3_ranked_12 : decode cX3_ranked 12 = .ok (.iconst (-1), 1) := by decide +kernel
theorem dX3_ranked_13 : decode cX3_ranked 13 = .ok (.ireturn, 1) := by decide +kernel
theorem dX3_ranked_14 : decode cX3_ranked 14 = .ok (.iconst 0, 1) := by decide +kernel
theorem dX3_ranked_15 : decode cX3_ranked 15 = .ok (.istore_n 3, 1) := by decide +kernel
theorem dX3_ranked_16 : decode cX3_ranked 16 = .ok (.iload_n 3, 1) := by decide +kernel
theorem dX3_ranked_17 : decode cX3_ranked 17 = .ok (.aload_n 0, 1) := by decide +kernel
theorem dX3_ranked_18 : decode cX3_ranked 18 = .ok (.getfield 64, 3) := by decide +kernel
theorem dX3_ranked_21 : decode cX3_ranked 21 = .ok (.if_icmp .ge 102, 3) := by decide +kernel
theorem dX3_ranked_24 : decode cX3_ranked 24 = .ok (.aload_n 0, 1) := by decide +kernel
theorem dX3_ranked_25 : decode cX3_ranked 25 = .ok (.iload_n 3, 1) := by decide +kernel
theorem dX3_ranked_26 : decode cX3_ranked 26 = .ok (.invokevirtual 120, 3) := by decide +kernel
theorem dX3_ranked_29 : decode cX3_ranked 29 = .ok (.ifCond .ne 6, 3) := by decide +kernel
theorem dX3_ranked_32 : decode cX3_ranked 32 = .ok (.goto 85, 3) := by decide +kernel
theorem dX3_ranked_35 : decode cX3_ranked 35 = .ok (.iconst 0, 1) := by decide +kernel
theorem dX3_ranked_36 : decode cX3_ranked 36 = .ok (.istore 4, 2) := by decide +kernel
theorem dX3_ranked_38 : decode cX3_ranked 38 = .ok (.iconst 0, 1) := by decide +kernel
theorem dX3_ranked_39 : decode cX3_ranked 39 = .ok (.istore 5, 2) := by decide +kernel
theorem dX3_ranked_41 : decode cX3_ranked 41 = .ok (.iload 5, 2) := by decide +kernel
theorem dX3_ranked_43 : decode cX3_ranked 43 = .ok (.aload_n 0, 1) := by decide +kernel
theorem dX3_ranked_44 : decode cX3_ranked 44 = .ok (.getfield 64, 3) := by decide +kernel
theorem dX3_ranked_47 : decode cX3_ranked 47 = .ok (.if_icmp .ge 62, 3) := by decide +kernel
theorem dX3_ranked_50 : decode cX3_ranked 50 = .ok (.iload 4, 2) := by decide +kernel
theorem dX3_ranked_52 : decode cX3_ranked 52 = .ok (.aload_n 0, 1) := by decide +kernel
theorem dX3_ranked_53 : decode cX3_ranked 53 = .ok (.iload 5, 2) := by decide +kernel
theorem dX3_ranked_55 : decode cX3_ranked 55 = .ok (.invokevirtual 120, 3) := by decide +kernel
theorem dX3_ranked_58 : decode cX3_ranked 58 = .ok (.ifCond .eq 41, 3) := by decide +kernel
theorem dX3_ranked_61 : decode cX3_ranked 61 = .ok (.iload 5, 2) := by decide +kernel
theorem dX3_ranked_63 : decode cX3_ranked 63 = .ok (.iload_n 3, 1) := by decide +kernel
theorem dX3_ranked_64 : decode cX3_ranked 64 = .ok (.if_icmp .eq 35, 3) := by decide +kernel
theorem dX3_ranked_67 : decode cX3_ranked 67 = .ok (.aload_n 0, 1) := by decide +kernel
theorem dX3_ranked_68 : decode cX3_ranked 68 = .ok (.iload_n 3, 1) := by decide +kernel
theorem dX3_ranked_69 : decode cX3_ranked 69 = .ok (.iload 5, 2) := by decide +kernel
theorem dX3_ranked_71 : decode cX3_ranked 71 = .ok (.iload_n 1, 1) := by decide +kernel
theorem dX3_ranked_72 : decode cX3_ranked 72 = .ok (.invokevirtual 147, 3) := by decide +kernel
theorem dX3_ranked_75 : decode cX3_ranked 75 = .ok (.ifCond .ne 20, 3) := by decide +kernel
theorem dX3_ranked_78 : decode cX3_ranked 78 = .ok (.iload 5, 2) := by decide +kernel
theorem dX3_ranked_80 : decode cX3_ranked 80 = .ok (.iload_n 3, 1) := by decide +kernel
theorem dX3_ranked_81 : decode cX3_ranked 81 = .ok (.if_icmp .ge 18, 3) := by decide +kernel
theorem dX3_ranked_84 : decode cX3_ranked 84 = .ok (.aload_n 0, 1) := by decide +kernel
theorem dX3_ranked_85 : decode cX3_ranked 85 = .ok (.iload 5, 2) := by decide +kernel
theorem dX3_ranked_87 : decode cX3_ranked 87 = .ok (.iload_n 3, 1) := by decide +kernel
theorem dX3_ranked_88 : decode cX3_ranked 88 = .ok (.iload_n 1, 1) := by decide +kernel
theorem dX3_ranked_89 : decode cX3_ranked 89 = .ok (.invokevirtual 147, 3) := by decide +kernel
theorem dX3_ranked_92 : decode cX3_ranked 92 = .ok (.ifCond .ne 7, 3) := by decide +kernel
theorem dX3_ranked_95 : decode cX3_ranked 95 = .ok (.iconst 1, 1) := by decide +kernel
theorem dX3_ranked_96 : decode cX3_ranked 96 = .ok (.goto 4, 3) := by decide +kernel
theorem dX3_ranked_99 : decode cX3_ranked 99 = .ok (.iconst 0, 1) := by decide +kernel
theorem dX3_ranked_100 : decode cX3_ranked 100 = .ok (.iadd, 1) := by decide +kernel
theorem dX3_ranked_101 : decode cX3_ranked 101 = .ok (.istore 4, 2) := by decide +kernel
theorem dX3_ranked_103 : decode cX3_ranked 103 = .ok (.iinc 5 1, 3) := by decide +kernel
theorem dX3_ranked_106 : decode cX3_ranked 106 = .ok (.goto (-65), 3) := by decide +kernel
theorem dX3_ranked_109 : decode cX3_ranked 109 = .ok (.iload 4, 2) := by decide +kernel
theorem dX3_ranked_111 : decode cX3_ranked 111 = .ok (.iload_n 2, 1) := by decide +kernel
theorem dX3_ranked_112 : decode cX3_ranked 112 = .ok (.if_icmp .ne 5, 3) := by decide +kernel
theorem dX3_ranked_115 : decode cX3_ranked 115 = .ok (.iload_n 3, 1) := by decide +kernel
theorem dX3_ranked_116 : decode cX3_ranked 116 = .ok (.ireturn, 1) := by decide +kernel
theorem dX3_ranked_117 : decode cX3_ranked 117 = .ok (.iinc 3 1, 3) := by decide +kernel
theorem dX3_ranked_120 : decode cX3_ranked 120 = .ok (.goto (-104), 3) := by decide +kernel
theorem dX3_ranked_123 : decode cX3_ranked 123 = .ok (.iconst (-1), 1) := by decide +kernel
theorem dX3_ranked_124 : decode cX3_ranked 124 = .ok (.ireturn, 1) := by decide +kernel
set_option maxRecDepth 20000 in
theorem ggX3_mark1_X3_cheapest1 : GoodIn wsX3_mark1 wsX3_cheapest1 := goodIn_r _ [6, 7, 8, 9, 10, 5, 11, 12, 13, 14, 15, 16, 17, 18, 19, 20, 21, 22, 23, 24, 25, 26, 27, 28, 1, 29, 30, 31, 32, 33, 34, 35, 36, 37, 38, 39, 40, 41, 42, 43, 44, 45, 46, 47, 48, 49, 50, 51, 52, 53, 54, 55, 56, 57, 58, 59, 60, 61, 62, 63, 64, 65, 66, 67, 68, 69, 70, 71, 72, 73] (by decide +kernel) (by decide +kernel)
set_option maxRecDepth 20000 in
theorem gX3_mark1_X3_cheapest1 : GoodIn wsX3_mark1 (wsV RX3 151 RX3 yX3_cheapest1 wsX3_cheapest1) := goodIn_app (goodIn_of _ (by decide +kernel)) ggX3_mark1_X3_cheapest1
set_option maxRecDepth 20000 in
theorem ggX3_mark1_X3_price1 : GoodIn wsX3_mark1 wsX3_price1 := goodIn_r _ [53, 16, 17, 18, 5, 19, 20, 29, 30, 31, 32, 1, 33, 34, 35, 36, 37, 38, 39, 40, 41, 42, 43, 44, 45, 54, 55, 56, 57, 58, 59, 60, 61, 62, 63, 64, 65, 66, 67, 68, 69, 70, 71, 72, 73] (by decide +kernel) (by decide +kernel)
set_option maxRecDepth 20000 in
theorem gX3_mark1_X3_price1 : GoodIn wsX3_mark1 (wsV RX3 135 RX3 yX3_price1 wsX3_price1) := goodIn_app (goodIn_of _ (by decide +kernel)) ggX3_mark1_X3_price1
set_option maxRecDepth 20000 in
theorem ggX3_mark1_X3_factor : GoodIn wsX3_mark1 wsX3_factor := goodIn_r _ [27, 28, 1, 29, 30, 31, 5, 32, 16, 17, 18, 19, 20, 33, 34, 35, 36, 37, 38, 39, 40, 41, 42, 43, 44, 45, 54, 55, 56, 57, 58, 59, 60, 61, 62, 63, 64, 65, 66, 67, 68, 69, 70, 71, 72, 73] (by decide +kernel) (by decide +kernel)
set_option maxRecDepth 20000 in
theorem gX3_mark1_X3_factor : GoodIn wsX3_mark1 (wsV RX3 116 RX3 yX3_factor wsX3_factor) := goodIn_app (goodIn_of _ (by decide +kernel)) ggX3_mark1_X3_factor
theorem dX3_mark1_0 : decode cX3_mark1 0 = .ok (.aload_n 0, 1) := by decide +kernel
theorem dX3_mark1_1 : decode cX3_mark1 1 = .ok (.iload_n 1, 1) := by decide +kernel
theorem dX3_mark1_2 : decode cX3_mark1 2 = .ok (.invokevirtual 151, 3) := by decide +kernel
theorem dX3_mark1_5 : decode cX3_mark1 5 = .ok (.istore_n 2, 1) := by decide +kernel
theorem dX3_mark1_6 : decode cX3_mark1 6 = .ok (.aload_n 0, 1) := by decide +kernel
theorem dX3_mark1_7 : decode cX3_mark1 7 = .ok (.iload_n 2, 1) := by decide +kernel
theorem dX3_mark1_8 : decode cX3_mark1 8 = .ok (.iload_n 1, 1) := by decide +kernel
theorem dX3_mark1_9 : decode cX3_mark1 9 = .ok (.invokevirtual 135, 3) := by decide +kernel
theorem dX3_mark1_12 : decode cX3_mark1 12 = .ok (.ldc2_w 105, 3) := by decide +kernel
theorem dX3_mark1_15 : decode cX3_mark1 15 = .ok (.lmul, 1) := by decide +kernel
theorem dX3_mark1_16 : decode cX3_mark1 16 = .ok (.aload_n 0, 1) := by decide +kernel
theorem dX3_mark1_17 : decode cX3_mark1 17 = .ok (.iload_n 2, 1) := by decide +kernel
theorem dX3_mark1_18 : decode cX3_mark1 18 = .ok (.invokevirtual 116, 3) := by decide +kernel
theorem dX3_mark1_21 : decode cX3_mark1 21 = .ok (.ldiv, 1) := by decide +kernel
theorem dX3_mark1_22 : decode cX3_mark1 22 = .ok (.lreturn, 1) := by decide +kernel
set_option maxRecDepth 20000 in
theorem ggX3_mark_X3_isRate : GoodIn wsX3_mark wsX3_isRate := goodIn_r _ [6, 7, 8, 9, 5, 10] (by decide +kernel) (by decide +kernel)
set_option maxRecDepth 20000 in
theorem gX3_mark_X3_isRate : GoodIn wsX3_mark (va_wsS RX3 132 yX3_isRate wsX3_isRate) := goodIn_app (goodIn_of _ (by decide +kernel)) ggX3_mark_X3_isRate
set_option maxRecDepth 20000 in
theorem ggX3_mark_X3_isAny : GoodIn wsX3_mark wsX3_isAny := goodIn_r _ [14, 15, 16, 17, 5, 18, 19, 20, 21, 22, 23, 24, 25, 26, 27, 28, 29, 30, 31, 32, 8, 9, 10, 33, 34, 35, 36, 37, 38, 39, 40, 41, 42, 43, 44, 45, 46, 47, 48, 49, 50, 51, 52, 53, 54, 55, 72, 73, 74, 75, 76, 77, 78, 79, 80, 81, 82, 83, 84, 85, 86, 87, 88, 89, 90, 91] (by decide +kernel) (by decide +kernel)
set_option maxRecDepth 20000 in
theorem gX3_mark_X3_isAny : GoodIn wsX3_mark (wsV RX3 155 RX3 yX3_isAny wsX3_isAny) := goodIn_app (goodIn_of _ (by decide +kernel)) ggX3_mark_X3_isAny
set_option maxRecDepth 20000 in
theorem ggX3_mark_X3_mark1 : GoodIn wsX3_mark wsX3_mark1 := goodIn_r _ [59, 38, 60, 61, 62, 5, 63, 19, 20, 21, 22, 23, 24, 25, 26, 27, 28, 29, 30, 31, 32, 8, 9, 10, 33, 34, 35, 36, 37, 39, 40, 41, 42, 43, 44, 45, 46, 47, 48, 49, 50, 51, 52, 53, 54, 55, 64, 65, 66, 67, 68, 69, 70, 71, 72, 73, 74, 75, 76, 77, 78, 79, 80, 81, 82, 83, 84, 85, 86, 87, 88, 89, 90, 91] (by decide +kernel) (by decide +kernel)
set_option maxRecDepth 20000 in
theorem gX3_mark_X3_mark1 : GoodIn wsX3_mark (wsV RX3 159 RX3 yX3_mark1 wsX3_mark1) := goodIn_app (goodIn_of _ (by decide +kernel)) ggX3_mark_X3_mark1
theorem dX3_mark_0 : decode cX3_mark 0 = .ok (.aload_n 0, 1) := by decide +kernel
theorem dX3_mark_1 : decode cX3_mark 1 = .ok (.iconst 0, 1) := by decide +kernel
theorem dX3_mark_2 : decode cX3_mark 2 = .ok (.putfield 61, 3) := by decide +kernel
theorem dX3_mark_5 : decode cX3_mark 5 = .ok (.iload_n 1, 1) := by decide +kernel
theorem dX3_mark_6 : decode cX3_mark 6 = .ok (.invokestatic 132, 3) := by decide +kernel
theorem dX3_mark_9 : decode cX3_mark 9 = .ok (.ifCond .eq 18, 3) := by decide +kernel
theorem dX3_mark_12 : decode cX3_mark 12 = .ok (.aload_n 0, 1) := by decide +kernel
theorem dX3_mark_13 : decode cX3_mark 13 = .ok (.invokevirtual 155, 3) := by decide +kernel
theorem dX3_mark_16 : decode cX3_mark 16 = .ok (.ifCond .eq 11, 3) := by decide +kernel
theorem dX3_mark_19 : decode cX3_mark 19 = .ok (.aload_n 0, 1) := by decide +kernel
theorem dX3_mark_20 : decode cX3_mark 20 = .ok (.iload_n 1, 1) := by decide +kernel
theorem dX3_mark_21 : decode cX3_mark 21 = .ok (.invokevirtual 159, 3) := by decide +kernel
theorem dX3_mark_24 : decode cX3_mark 24 = .ok (.goto 6, 3) := by decide +kernel
theorem dX3_mark_27 : decode cX3_mark 27 = .ok (.ldc2_w 162, 3) := by decide +kernel
theorem dX3_mark_30 : decode cX3_mark 30 = .ok (.lreturn, 1) := by decide +kernel
set_option maxRecDepth 20000 in
theorem ggX3_invoice_X3_factor : GoodIn wsX3_invoice wsX3_factor := goodIn_r _ [6, 7, 1, 8, 9, 10, 5, 11, 12, 13, 14, 15, 16, 17, 18, 19, 20, 21, 22, 23, 24, 25, 26, 27, 28, 29, 30, 31, 32, 33, 34, 35, 36, 37, 38, 39, 40, 41, 42, 43, 44, 45, 46, 47, 48, 49] (by decide +kernel) (by decide +kernel)
set_option maxRecDepth 20000 in
theorem gX3_invoice_X3_factor : GoodIn wsX3_invoice (wsV RX3 116 RX3 yX3_factor wsX3_factor) := goodIn_app (goodIn_of _ (by decide +kernel)) ggX3_invoice_X3_factor
theorem dX3_invoice_0 : decode cX3_invoice 0 = .ok (.lload_n 2, 1) := by decide +kernel
theorem dX3_invoice_1 : decode cX3_invoice 1 = .ok (.aload_n 0, 1) := by decide +kernel
theorem dX3_invoice_2 : decode cX3_invoice 2 = .ok (.iload_n 1, 1) := by decide +kernel
theorem dX3_invoice_3 : decode cX3_invoice 3 = .ok (.invokevirtual 116, 3) := by decide +kernel
theorem dX3_invoice_6 : decode cX3_invoice 6 = .ok (.lmul, 1) := by decide +kernel
theorem dX3_invoice_7 : decode cX3_invoice 7 = .ok (.ldc2_w 105, 3) := by decide +kernel
theorem dX3_invoice_10 : decode cX3_invoice 10 = .ok (.ldiv, 1) := by decide +kernel
theorem dX3_invoice_11 : decode cX3_invoice 11 = .ok (.lreturn, 1) := by decide +kernel
set_option maxRecDepth 20000 in
theorem ggX3_gap_X3_isBond : GoodIn wsX3_gap wsX3_isBond := goodIn_r _ [6, 7, 8, 9, 5, 10, 75, 76, 77, 78, 79, 80, 81, 82, 83, 84, 85, 86, 87, 88, 89, 90, 91, 92, 93, 94] (by decide +kernel) (by decide +kernel)
set_option maxRecDepth 20000 in
theorem gX3_gap_X3_isBond : GoodIn wsX3_gap (wsV RX3 87 RX3 yX3_isBond wsX3_isBond) := goodIn_app (goodIn_of _ (by decide +kernel)) ggX3_gap_X3_isBond
set_option maxRecDepth 20000 in
theorem ggX3_gap_X3_isEligible : GoodIn wsX3_gap wsX3_isEligible := goodIn_r _ [14, 15, 16, 17, 18, 19, 20, 21, 5, 22, 23, 8, 9, 10, 24, 25, 26, 27, 28, 29, 30, 31, 32, 33, 34, 35, 36, 37, 38, 39, 40, 41, 42, 43, 44, 45, 46, 75, 76, 77, 78, 79, 80, 81, 82, 83, 84, 85, 86, 87, 88, 89, 90, 91, 92, 93, 94] (by decide +kernel) (by decide +kernel)
set_option maxRecDepth 20000 in
theorem gX3_gap_X3_isEligible : GoodIn wsX3_gap (wsV RX3 120 RX3 yX3_isEligible wsX3_isEligible) := goodIn_app (goodIn_of _ (by decide +kernel)) ggX3_gap_X3_isEligible
set_option maxRecDepth 20000 in
theorem ggX3_gap_X3_isRate : GoodIn wsX3_gap wsX3_isRate := goodIn_r _ [49, 50, 8, 9, 5, 10] (by decide +kernel) (by decide +kernel)
set_option maxRecDepth 20000 in
theorem gX3_gap_X3_isRate : GoodIn wsX3_gap (va_wsS RX3 132 yX3_isRate wsX3_isRate) := goodIn_app (goodIn_of _ (by decide +kernel)) ggX3_gap_X3_isRate
set_option maxRecDepth 20000 in
theorem ggX3_gap_X3_refuse : GoodIn wsX3_gap wsX3_refuse := goodIn_r _ [54, 1, 75, 76, 77, 78, 79, 80, 81, 82, 83, 84, 85, 86, 87, 88, 89, 90, 91, 92, 93, 94] (by decide +kernel) (by decide +kernel)
set_option maxRecDepth 20000 in
theorem gX3_gap_X3_refuse : GoodIn wsX3_gap (wsV RX3 127 RX3 yX3_refuse wsX3_refuse) := goodIn_app (goodIn_of _ (by decide +kernel)) ggX3_gap_X3_refuse
set_option maxRecDepth 20000 in
theorem ggX3_gap_X3_price1 : GoodIn wsX3_gap wsX3_price1 := goodIn_r _ [58, 19, 20, 21, 5, 22, 23, 30, 31, 32, 33, 29, 34, 35, 36, 37, 38, 39, 40, 41, 42, 43, 44, 45, 46, 75, 76, 77, 78, 79, 80, 81, 82, 83, 84, 85, 86, 87, 88, 89, 90, 91, 92, 93, 94] (by decide +kernel) (by decide +kernel)
set_option maxRecDepth 20000 in
theorem gX3_gap_X3_price1 : GoodIn wsX3_gap (wsV RX3 135 RX3 yX3_price1 wsX3_price1) := goodIn_app (goodIn_of _ (by decide +kernel)) ggX3_gap_X3_price1
set_option maxRecDepth 20000 in
theorem ggX3_gap_X3_mark1 : GoodIn wsX3_gap wsX3_mark1 := goodIn_r _ [62, 29, 63, 64, 65, 5, 66, 7, 11, 12, 13, 14, 15, 16, 17, 18, 19, 20, 21, 22, 23, 8, 9, 10, 24, 25, 26, 27, 28, 30, 31, 32, 33, 34, 35, 36, 37, 38, 39, 40, 41, 42, 43, 44, 45, 46, 67, 68, 69, 70, 55, 56, 57, 58, 75, 76, 77, 78, 79, 80, 81, 82, 83, 84, 85, 86, 87, 88, 89, 90, 91, 92, 93, 94] (by decide +kernel) (by decide +kernel)
set_option maxRecDepth 20000 in
theorem gX3_gap_X3_mark1 : GoodIn wsX3_gap (wsV RX3 159 RX3 yX3_mark1 wsX3_mark1) := goodIn_app (goodIn_of _ (by decide +kernel)) ggX3_gap_X3_mark1
set_option maxRecDepth 20000 in
theorem ggX3_gap_X3_invoice : GoodIn wsX3_gap wsX3_invoice := goodIn_r _ [74, 29, 24, 25, 26, 5, 27, 28, 30, 31, 32, 33, 19, 20, 21, 22, 23, 34, 35, 36, 37, 38, 39, 40, 41, 42, 43, 44, 45, 46, 75, 76, 77, 78, 79, 80, 81, 82, 83, 84, 85, 86, 87, 88, 89, 90, 91, 92, 93, 94] (by decide +kernel) (by decide +kernel)
set_option maxRecDepth 20000 in
theorem gX3_gap_X3_invoice : GoodIn wsX3_gap (wsV RX3 164 RX3 yX3_invoice wsX3_invoice) := goodIn_app (goodIn_of _ (by decide +kernel)) ggX3_gap_X3_invoice
theorem dX3_gap_0 : decode cX3_gap 0 = .ok (.aload_n 0, 1) := by decide +kernel
theorem dX3_gap_1 : decode cX3_gap 1 = .ok (.iconst 0, 1) := by decide +kernel
theorem dX3_gap_2 : decode cX3_gap 2 = .ok (.putfield 61, 3) := by decide +kernel
theorem dX3_gap_5 : decode cX3_gap 5 = .ok (.aload_n 0, 1) := by decide +kernel
theorem dX3_gap_6 : decode cX3_gap 6 = .ok (.iload_n 1, 1) := by decide +kernel
theorem dX3_gap_7 : decode cX3_gap 7 = .ok (.invokevirtual 87, 3) := by decide +kernel
theorem dX3_gap_10 : decode cX3_gap 10 = .ok (.ifCond .eq 18, 3) := by decide +kernel
theorem dX3_gap_13 : decode cX3_gap 13 = .ok (.aload_n 0, 1) := by decide +kernel
theorem dX3_gap_14 : decode cX3_gap 14 = .ok (.iload_n 1, 1) := by decide +kernel
theorem dX3_gap_15 : decode cX3_gap 15 = .ok (.invokevirtual 120, 3) := by decide +kernel
theorem dX3_gap_18 : decode cX3_gap 18 = .ok (.ifCond .eq 10, 3) := by decide +kernel
theorem dX3_gap_21 : decode cX3_gap 21 = .ok (.iload_n 2, 1) := by decide +kernel
theorem dX3_gap_22 : decode cX3_gap 22 = .ok (.invokestatic 132, 3) := by decide +kernel
theorem dX3_gap_25 : decode cX3_gap 25 = .ok (.ifCond .ne 9, 3) := by decide +kernel
theorem dX3_gap_28 : decode cX3_gap 28 = .ok (.aload_n 0, 1) := by decide +kernel
theorem dX3_gap_29 : decode cX3_gap 29 = .ok (.invokevirtual 127, 3) := by decide +kernel
theorem dX3_gap_32 : decode cX3_gap 32 = .ok (.i2l, 1) := by decide +kernel
theorem dX3_gap_33 : decode cX3_gap 33 = .ok (.lreturn, 1) := by decide +kernel
theorem dX3_gap_34 : decode cX3_gap 34 = .ok (.aload_n 0, 1) := by decide +kernel
theorem dX3_gap_35 : decode cX3_gap 35 = .ok (.iload_n 1, 1) := by decide +kernel
theorem dX3_gap_36 : decode cX3_gap 36 = .ok (.iload_n 2, 1) := by decide +kernel
theorem dX3_gap_37 : decode cX3_gap 37 = .ok (.invokevirtual 135, 3) := by decide +kernel
theorem dX3_gap_40 : decode cX3_gap 40 = .ok (.aload_n 0, 1) := by decide +kernel
theorem dX3_gap_41 : decode cX3_gap 41 = .ok (.iload_n 1, 1) := by decide +kernel
theorem dX3_gap_42 : decode cX3_gap 42 = .ok (.aload_n 0, 1) := by decide +kernel
theorem dX3_gap_43 : decode cX3_gap 43 = .ok (.iload_n 2, 1) := by decide +kernel
theorem dX3_gap_44 : decode cX3_gap 44 = .ok (.invokevirtual 159, 3) := by decide +kernel
theorem dX3_gap_47 : decode cX3_gap 47 = .ok (.invokevirtual 164, 3) := by decide +kernel
theorem dX3_gap_50 : decode cX3_gap 50 = .ok (.lsub, 1) := by decide +kernel
theorem dX3_gap_51 : decode cX3_gap 51 = .ok (.lreturn, 1) := by decide +kernel
set_option maxRecDepth 20000 in
theorem ggX3_switches_X3_isRate : GoodIn wsX3_switches wsX3_isRate := goodIn_r _ [5, 6, 7, 8, 4, 9] (by decide +kernel) (by decide +kernel)
set_option maxRecDepth 20000 in
theorem gX3_switches_X3_isRate : GoodIn wsX3_switches (va_wsS RX3 132 yX3_isRate wsX3_isRate) := goodIn_app (goodIn_of _ (by decide +kernel)) ggX3_switches_X3_isRate
set_option maxRecDepth 20000 in
theorem ggX3_switches_X3_isAny : GoodIn wsX3_switches wsX3_isAny := goodIn_r _ [13, 14, 15, 16, 4, 17, 18, 19, 20, 21, 22, 23, 24, 25, 26, 27, 28, 29, 30, 31, 7, 8, 9, 32, 33, 34, 35, 36, 37, 38, 39, 40, 41, 42, 43, 44, 45, 46, 47, 48, 49, 50, 51, 52, 53, 54, 67, 68, 69, 70, 71, 72, 73, 74, 75, 76, 77, 78, 79, 80, 81, 82, 83, 84, 85, 86] (by decide +kernel) (by decide +kernel)
set_option maxRecDepth 20000 in
theorem gX3_switches_X3_isAny : GoodIn wsX3_switches (wsV RX3 155 RX3 yX3_isAny wsX3_isAny) := goodIn_app (goodIn_of _ (by decide +kernel)) ggX3_switches_X3_isAny
set_option maxRecDepth 20000 in
theorem ggX3_switches_X3_cheapest1 : GoodIn wsX3_switches wsX3_cheapest1 := goodIn_r _ [58, 18, 19, 20, 21, 4, 22, 23, 24, 25, 26, 27, 28, 29, 30, 31, 7, 8, 9, 32, 33, 34, 35, 36, 37, 38, 39, 40, 41, 42, 43, 44, 45, 46, 47, 48, 49, 50, 51, 52, 53, 54, 59, 60, 61, 62, 63, 64, 65, 66, 67, 68, 69, 70, 71, 72, 73, 74, 75, 76, 77, 78, 79, 80, 81, 82, 83, 84, 85, 86] (by decide +kernel) (by decide +kernel)
set_option maxRecDepth 20000 in
theorem gX3_switches_X3_cheapest1 : GoodIn wsX3_switches (wsV RX3 151 RX3 yX3_cheapest1 wsX3_cheapest1) := goodIn_app (goodIn_of _ (by decide +kernel)) ggX3_switches_X3_cheapest1
theorem dX3_switches_0 : decode cX3_switches 0 = .ok (.aload_n 0, 1) := by decide +kernel
theorem dX3_switches_1 : decode cX3_switches 1 = .ok (.iconst 0, 1) := by decide +kernel
theorem dX3_switches_2 : decode cX3_switches 2 = .ok (.putfield 61, 3) := by decide +kernel
theorem dX3_switches_5 : decode cX3_switches 5 = .ok (.iload_n 1, 1) := by decide +kernel
theorem dX3_switches_6 : decode cX3_switches 6 = .ok (.invokestatic 132, 3) := by decide +kernel
theorem dX3_switches_9 : decode cX3_switches 9 = .ok (.ifCond .eq 27, 3) := by decide +kernel
theorem dX3_switches_12 : decode cX3_switches 12 = .ok (.iload_n 2, 1) := by decide +kernel
theorem dX3_switches_13 : decode cX3_switches 13 = .ok (.invokestatic 132, 3) := by decide +kernel
theorem dX3_switches_16 : decode cX3_switches 16 = .ok (.ifCond .eq 20, 3) := by decide +kernel
theorem dX3_switches_19 : decode cX3_switches 19 = .ok (.iload_n 1, 1) := by decide +kernel
theorem dX3_switches_20 : decode cX3_switches 20 = .ok (.iload_n 2, 1) := by decide +kernel
theorem dX3_switches_21 : decode cX3_switches 21 = .ok (.if_icmp .gt 15, 3) := by decide +kernel
theorem dX3_switches_24 : decode cX3_switches 24 = .ok (.aload_n 0, 1) := by decide +kernel
theorem dX3_switches_25 : decode cX3_switches 25 = .ok (.invokevirtual 155, 3) := by decide +kernel
theorem dX3_switches_28 : decode cX3_switches 28 = .ok (.ifCond .eq 8, 3) := by decide +kernel
theorem dX3_switches_31 : decode cX3_switches 31 = .ok (.iload_n 3, 1) := by decide +kernel
theorem dX3_switches_32 : decode cX3_switches 32 = .ok (.iconst (-1), 1) := by decide +kernel
theorem dX3_switches_33 : decode cX3_switches 33 = .ok (.if_icmp .ge 5, 3) := by decide +kernel
theorem dX3_switches_36 : decode cX3_switches 36 = .ok (.iconst (-1), 1) := by decide +kernel
theorem dX3_switches_37 : decode cX3_switches 37 = .ok (.ireturn, 1) := by decide +kernel
theorem dX3_switches_38 : decode cX3_switches 38 = .ok (.iconst 0, 1) := by decide +kernel
theorem dX3_switches_39 : decode cX3_switches 39 = .ok (.istore 4, 2) := by decide +kernel
theorem dX3_switches_41 : decode cX3_switches 41 = .ok (.iload_n 1, 1) := by decide +kernel
theorem dX3_switches_42 : decode cX3_switches 42 = .ok (.iconst 1, 1) := by decide +kernel
theorem dX3_switches_43 : decode cX3_switches 43 = .ok (.iadd, 1) := by decide +kernel
theorem dX3_switches_44 : decode cX3_switches 44 = .ok (.istore 5, 2) := by decide +kernel
theorem dX3_switches_46 : decode cX3_switches 46 = .ok (.iload 5, 2) := by decide +kernel
theorem dX3_switches_48 : decode cX3_switches 48 = .ok (.iload_n 2, 1) := by decide +kernel
theorem dX3_switches_49 : decode cX3_switches 49 = .ok (.if_icmp .gt 41, 3) := by decide +kernel
theorem dX3_switches_52 : decode cX3_switches 52 = .ok (.aload_n 0, 1) := by decide +kernel
theorem dX3_switches_53 : decode cX3_switches 53 = .ok (.iload 5, 2) := by decide +kernel
theorem dX3_switches_55 : decode cX3_switches 55 = .ok (.invokevirtual 151, 3) := by decide +kernel
theorem dX3_switches_58 : decode cX3_switches 58 = .ok (.aload_n 0, 1) := by decide +kernel
theorem dX3_switches_59 : decode cX3_switches 59 = .ok (.iload 5, 2) := by decide +kernel
theorem dX3_switches_61 : decode cX3_switches 61 = .ok (.iconst 1, 1) := by decide +kernel
theorem dX3_switches_62 : decode cX3_switches 62 = .ok (.isub, 1) := by decide +kernel
theorem dX3_switches_63 : decode cX3_switches 63 = .ok (.invokevirtual 151, 3) := by decide +kernel
theorem dX3_switches_66 : decode cX3_switches 66 = .ok (.if_icmp .ne 6, 3) := by decide +kernel
theorem dX3_switches_69 : decode cX3_switches 69 = .ok (.goto 15, 3) := by decide +kernel
theorem dX3_switches_72 : decode cX3_switches 72 = .ok (.iload 4, 2) := by decide +kernel
theorem dX3_switches_74 : decode cX3_switches 74 = .ok (.iload_n 3, 1) := by decide +kernel
theorem dX3_switches_75 : decode cX3_switches 75 = .ok (.if_icmp .ne 6, 3) := by decide +kernel
theorem dX3_switches_78 : decode cX3_switches 78 = .ok (.iload 5, 2) := by decide +kernel
theorem dX3_switches_80 : decode cX3_switches 80 = .ok (.ireturn, 1) := by decide +kernel
theorem dX3_switches_81 : decode cX3_switches 81 = .ok (.iinc 4 1, 3) := by decide +kernel
theorem dX3_switches_84 : decode cX3_switches 84 = .ok (.iinc 5 1, 3) := by decide +kernel
theorem dX3_switches_87 : decode cX3_switches 87 = .ok (.goto (-41), 3) := by decide +kernel
theorem dX3_switches_90 : decode cX3_switches 90 = .ok (.iload_n 3, 1) := by decide +kernel
theorem dX3_switches_91 : decode cX3_switches 91 = .ok (.iconst (-1), 1) := by decide +kernel
theorem dX3_switches_92 : decode cX3_switches 92 = .ok (.if_icmp .ne 8, 3) := by decide +kernel
theorem dX3_switches_95 : decode cX3_switches 95 = .ok (.iload 4, 2) := by decide +kernel
theorem dX3_switches_97 : decode cX3_switches 97 = .ok (.goto 4, 3) := by decide +kernel
theorem dX3_switches_100 : decode cX3_switches 100 = .ok (.iconst (-1), 1) := by decide +kernel
theorem dX3_switches_101 : decode cX3_switches 101 = .ok (.ireturn, 1) := by decide +kernel
set_option maxRecDepth 20000 in
theorem ggX3_implied_X3_isAny : GoodIn wsX3_implied wsX3_isAny := goodIn_r _ [6, 7, 8, 9, 5, 10, 11, 12, 13, 14, 15, 16, 17, 18, 19, 20, 21, 22, 23, 24, 25, 26, 27, 28, 29, 30, 31, 32, 33, 34, 35, 36, 37, 38, 39, 40, 41, 42, 43, 44, 45, 46, 47, 48, 49, 50, 67, 68, 69, 70, 71, 72, 73, 74, 75, 76, 77, 78, 79, 80, 81, 82, 83, 84, 85, 86] (by decide +kernel) (by decide +kernel)
set_option maxRecDepth 20000 in
theorem gX3_implied_X3_isAny : GoodIn wsX3_implied (wsV RX3 155 RX3 yX3_isAny wsX3_isAny) := goodIn_app (goodIn_of _ (by decide +kernel)) ggX3_implied_X3_isAny
set_option maxRecDepth 20000 in
theorem ggX3_implied_X3_mark1 : GoodIn wsX3_implied wsX3_mark1 := goodIn_r _ [54, 33, 55, 56, 57, 5, 58, 11, 12, 13, 14, 15, 16, 17, 18, 19, 20, 21, 22, 23, 24, 25, 26, 27, 28, 29, 30, 31, 32, 34, 35, 36, 37, 38, 39, 40, 41, 42, 43, 44, 45, 46, 47, 48, 49, 50, 59, 60, 61, 62, 63, 64, 65, 66, 67, 68, 69, 70, 71, 72, 73, 74, 75, 76, 77, 78, 79, 80, 81, 82, 83, 84, 85, 86] (by decide +kernel) (by decide +kernel)
set_option maxRecDepth 20000 in
theorem gX3_implied_X3_mark1 : GoodIn wsX3_implied (wsV RX3 159 RX3 yX3_mark1 wsX3_mark1) := goodIn_app (goodIn_of _ (by decide +kernel)) ggX3_implied_X3_mark1
theorem dX3_implied_0 : decode cX3_implied 0 = .ok (.aload_n 0, 1) := by decide +kernel
theorem dX3_implied_1 : decode cX3_implied 1 = .ok (.iconst 0, 1) := by decide +kernel
theorem dX3_implied_2 : decode cX3_implied 2 = .ok (.putfield 61, 3) := by decide +kernel
theorem dX3_implied_5 : decode cX3_implied 5 = .ok (.aload_n 0, 1) := by decide +kernel
theorem dX3_implied_6 : decode cX3_implied 6 = .ok (.invokevirtual 155, 3) := by decide +kernel
theorem dX3_implied_9 : decode cX3_implied 9 = .ok (.ifCond .ne 5, 3) := by decide +kernel
theorem dX3_implied_12 : decode cX3_implied 12 = .ok (.iconst (-1), 1) := by decide +kernel
theorem dX3_implied_13 : decode cX3_implied 13 = .ok (.ireturn, 1) := by decide +kernel
theorem dX3_implied_14 : decode cX3_implied 14 = .ok (.iconst 0, 1) := by decide +kernel
theorem dX3_implied_15 : decode cX3_implied 15 = .ok (.istore_n 3, 1) := by decide +kernel
theorem dX3_implied_16 : decode cX3_implied 16 = .ok (.iload_n 3, 1) := by decide +kernel
theorem dX3_implied_17 : decode cX3_implied 17 = .ok (.sipush 3000, 3) := by decide +kernel
theorem dX3_implied_20 : decode cX3_implied 20 = .ok (.if_icmp .gt 21, 3) := by decide +kernel
theorem dX3_implied_23 : decode cX3_implied 23 = .ok (.aload_n 0, 1) := by decide +kernel
theorem dX3_implied_24 : decode cX3_implied 24 = .ok (.iload_n 3, 1) := by decide +kernel
theorem dX3_implied_25 : decode cX3_implied 25 = .ok (.invokevirtual 159, 3) := by decide +kernel
theorem dX3_implied_28 : decode cX3_implied 28 = .ok (.lload_n 1, 1) := by decide +kernel
theorem dX3_implied_29 : decode cX3_implied 29 = .ok (.lcmp, 1) := by decide +kernel
theorem dX3_implied_30 : decode cX3_implied 30 = .ok (.ifCond .gt 5, 3) := by decide +kernel
theorem dX3_implied_33 : decode cX3_implied 33 = .ok (.iload_n 3, 1) := by decide +kernel
theorem dX3_implied_34 : decode cX3_implied 34 = .ok (.ireturn, 1) := by decide +kernel
theorem dX3_implied_35 : decode cX3_implied 35 = .ok (.iinc 3 1, 3) := by decide +kernel
theorem dX3_implied_38 : decode cX3_implied 38 = .ok (.goto (-22), 3) := by decide +kernel
theorem dX3_implied_41 : decode cX3_implied 41 = .ok (.iconst (-1), 1) := by decide +kernel
theorem dX3_implied_42 : decode cX3_implied 42 = .ok (.ireturn, 1) := by decide +kernel
set_option maxRecDepth 20000 in
theorem ggX3_meets_X3_price1 : GoodIn wsX3_meets wsX3_price1 := goodIn_r _ [8, 9, 10, 11, 7, 12, 13, 14, 15, 16, 17, 18, 19, 20, 21, 22, 23, 24, 25, 26, 27, 28, 29, 30, 31, 52, 53, 54, 55, 56, 57, 58, 59, 60, 61, 62, 63, 64, 65, 66, 67, 68, 69, 70, 71] (by decide +kernel) (by decide +kernel)
set_option maxRecDepth 20000 in
theorem gX3_meets_X3_price1 : GoodIn wsX3_meets (wsV RX3 135 RX3 yX3_price1 wsX3_price1) := goodIn_app (goodIn_of _ (by decide +kernel)) ggX3_meets_X3_price1
set_option maxRecDepth 20000 in
theorem ggX3_meets_X3_invoice : GoodIn wsX3_meets wsX3_invoice := goodIn_r _ [35, 18, 36, 37, 38, 7, 39, 40, 14, 15, 16, 17, 9, 10, 11, 12, 13, 19, 20, 21, 22, 23, 24, 25, 26, 27, 28, 29, 30, 31, 52, 53, 54, 55, 56, 57, 58, 59, 60, 61, 62, 63, 64, 65, 66, 67, 68, 69, 70, 71] (by decide +kernel) (by decide +kernel)
set_option maxRecDepth 20000 in
theorem gX3_meets_X3_invoice : GoodIn wsX3_meets (wsV RX3 164 RX3 yX3_invoice wsX3_invoice) := goodIn_app (goodIn_of _ (by decide +kernel)) ggX3_meets_X3_invoice
set_option maxRecDepth 20000 in
theorem ggX3_meets_X3_isEligible : GoodIn wsX3_meets wsX3_isEligible := goodIn_r _ [44, 45, 46, 47, 48, 9, 10, 11, 7, 12, 13, 49, 50, 51, 36, 37, 38, 39, 40, 18, 14, 15, 16, 17, 19, 20, 21, 22, 23, 24, 25, 26, 27, 28, 29, 30, 31, 52, 53, 54, 55, 56, 57, 58, 59, 60, 61, 62, 63, 64, 65, 66, 67, 68, 69, 70, 71] (by decide +kernel) (by decide +kernel)
set_option maxRecDepth 20000 in
theorem gX3_meets_X3_isEligible : GoodIn wsX3_meets (wsV RX3 120 RX3 yX3_isEligible wsX3_isEligible) := goodIn_app (goodIn_of _ (by decide +kernel)) ggX3_meets_X3_isEligible
set_option maxRecDepth 20000 in
theorem ggX3_meets_X3_of1 : GoodIn wsX3_meets wsX3_of1 := goodIn_r _ [12, 13, 52, 53, 54, 55, 56, 57, 58, 59, 60, 61, 62, 63, 64, 65, 66, 67, 68, 69, 70, 71] (by decide +kernel) (by decide +kernel)
set_option maxRecDepth 20000 in
theorem gX3_meets_X3_of1 : GoodIn wsX3_meets (wsV RX3 95 RX3 yX3_of1 wsX3_of1) := goodIn_app (goodIn_of _ (by decide +kernel)) ggX3_meets_X3_of1
theorem dX3_meets_0 : decode cX3_meets 0 = .ok (.iload_n 1, 1) := by decide +kernel
theorem dX3_meets_1 : decode cX3_meets 1 = .ok (.istore 4, 2) := by decide +kernel
theorem dX3_meets_3 : decode cX3_meets 3 = .ok (.iconst 0, 1) := by decide +kernel
theorem dX3_meets_4 : decode cX3_meets 4 = .ok (.istore 5, 2) := by decide +kernel
theorem dX3_meets_6 : decode cX3_meets 6 = .ok (.iconst 0, 1) := by decide +kernel
theorem dX3_meets_7 : decode cX3_meets 7 = .ok (.istore 6, 2) := by decide +kernel
theorem dX3_meets_9 : decode cX3_meets 9 = .ok (.iload 6, 2) := by decide +kernel
theorem dX3_meets_11 : decode cX3_meets 11 = .ok (.aload_n 0, 1) := by decide +kernel
theorem dX3_meets_12 : decode cX3_meets 12 = .ok (.getfield 64, 3) := by decide +kernel
theorem dX3_meets_15 : decode cX3_meets 15 = .ok (.if_icmp .ge 40, 3) := by decide +kernel
theorem dX3_meets_18 : decode cX3_meets 18 = .ok (.aload_n 0, 1) := by decide +kernel
theorem dX3_meets_19 : decode cX3_meets 19 = .ok (.getfield 39, 3) := by decide +kernel
theorem dX3_meets_22 : decode cX3_meets 22 = .ok (.iload 6, 2) := by decide +kernel
theorem dX3_meets_24 : decode cX3_meets 24 = .ok (.iconst 0, 1) := by decide +kernel
theorem dX3_meets_25 : decode cX3_meets 25 = .ok (.iastore, 1) := by decide +kernel
theorem dX3_meets_26 : decode cX3_meets 26 = .ok (.aload_n 0, 1) := by decide +kernel
theorem dX3_meets_27 : decode cX3_meets 27 = .ok (.getfield 42, 3) := by decide +kernel
theorem dX3_meets_30 : decode cX3_meets 30 = .ok (.iload 6, 2) := by decide +kernel
theorem dX3_meets_32 : decode cX3_meets 32 = .ok (.aload_n 0, 1) := by decide +kernel
theorem dX3_meets_33 : decode cX3_meets 33 = .ok (.iload 6, 2) := by decide +kernel
theorem dX3_meets_35 : decode cX3_meets 35 = .ok (.iload_n 2, 1) := by decide +kernel
theorem dX3_meets_36 : decode cX3_meets 36 = .ok (.invokevirtual 135, 3) := by decide +kernel
theorem dX3_meets_39 : decode cX3_meets 39 = .ok (.aload_n 0, 1) := by decide +kernel
theorem dX3_meets_40 : decode cX3_meets 40 = .ok (.iload 6, 2) := by decide +kernel
theorem dX3_meets_42 : decode cX3_meets 42 = .ok (.iload_n 3, 1) := by decide +kernel
theorem dX3_meets_43 : decode cX3_meets 43 = .ok (.i2l, 1) := by decide +kernel
theorem dX3_meets_44 : decode cX3_meets 44 = .ok (.invokevirtual 164, 3) := by decide +kernel
theorem dX3_meets_47 : decode cX3_meets 47 = .ok (.lsub, 1) := by decide +kernel
theorem dX3_meets_48 : decode cX3_meets 48 = .ok (.lastore, 1) := by decide +kernel
theorem dX3_meets_49 : decode cX3_meets 49 = .ok (.iinc 6 1, 3) := by decide +kernel
theorem dX3_meets_52 : decode cX3_meets 52 = .ok (.goto (-43), 3) := by decide +kernel
theorem dX3_meets_55 : decode cX3_meets 55 = .ok (.iload 4, 2) := by decide +kernel
theorem dX3_meets_57 : decode cX3_meets 57 = .ok (.ifCond .le 134, 3) := by decide +kernel
theorem dX3_meets_60 : decode cX3_meets 60 = .ok (.iconst (-1), 1) := by decide +kernel
theorem dX3_meets_61 : decode cX3_meets 61 = .ok (.istore 6, 2) := by decide +kernel
theorem dX3_meets_63 : decode cX3_meets 63 = .ok (.iconst 0, 1) := by decide +kernel
theorem dX3_meets_64 : decode cX3_meets 64 = .ok (.istore 7, 2) := by decide +kernel
theorem dX3_meets_66 : decode cX3_meets 66 = .ok (.iload 7, 2) := by decide +kernel
theorem dX3_meets_68 : decode cX3_meets 68 = .ok (.aload_n 0, 1) := by decide +kernel
theorem dX3_meets_69 : decode cX3_meets 69 = .ok (.getfield 64, 3) := by decide +kernel
theorem dX3_meets_72 : decode cX3_meets 72 = .ok (.if_icmp .ge 56, 3) := by decide +kernel
theorem dX3_meets_75 : decode cX3_meets 75 = .ok (.aload_n 0, 1) := by decide +kernel
theorem dX3_meets_76 : decode cX3_meets 76 = .ok (.iload 7, 2) := by decide +kernel
theorem dX3_meets_78 : decode cX3_meets 78 = .ok (.invokevirtual 120, 3) := by decide +kernel
theorem dX3_meets_81 : decode cX3_meets 81 = .ok (.ifCond .eq 41, 3) := by decide +kernel
theorem dX3_meets_84 : decode cX3_meets 84 = .ok (.iload 5, 2) := by decide +kernel
theorem dX3_meets_86 : decode cX3_meets 86 = .ok (.iload 7, 2) := by decide +kernel
theorem dX3_meets_88 : decode cX3_meets 88 = .ok (.ishr, 1) := by decide +kernel
theorem dX3_meets_89 : decode cX3_meets 89 = .ok (.iconst 1, 1) := by decide +kernel
theorem dX3_meets_90 : decode cX3_meets 90 = .ok (.iand, 1) := by decide +kernel
theorem dX3_meets_91 : decode cX3_meets 91 = .ok (.ifCond .ne 31, 3) := by decide +kernel
theorem dX3_meets_94 : decode cX3_meets 94 = .ok (.iload 6, 2) := by decide +kernel
theorem dX3_meets_96 : decode cX3_meets 96 = .ok (.iconst (-1), 1) := by decide +kernel
theorem dX3_meets_97 : decode cX3_meets 97 = .ok (.if_icmp .eq 21, 3) := by decide +kernel
theorem dX3_meets_100 : decode cX3_meets 100 = .ok (.aload_n 0, 1) := by decide +kernel
theorem dX3_meets_101 : decode cX3_meets 101 = .ok (.getfield 42, 3) := by decide +kernel
theorem dX3_meets_104 : decode cX3_meets 104 = .ok (.iload 7, 2) := by decide +kernel
theorem dX3_meets_106 : decode cX3_meets 106 = .ok (.laload, 1) := by decide +kernel
theorem dX3_meets_107 : decode cX3_meets 107 = .ok (.aload_n 0, 1) := by decide +kernel
theorem dX3_meets_108 : decode cX3_meets 108 = .ok (.getfield 42, 3) := by decide +kernel
theorem dX3_meets_111 : decode cX3_meets 111 = .ok (.iload 6, 2) := by decide +kernel
theorem dX3_meets_113 : decode cX3_meets 113 = .ok (.laload, 1) := by decide +kernel
theorem dX3_meets_114 : decode cX3_meets 114 = .ok (.lcmp, 1) := by decide +kernel
theorem dX3_meets_115 : decode cX3_meets 115 = .ok (.ifCond .ge 7, 3) := by decide +kernel
theorem dX3_meets_118 : decode cX3_meets 118 = .ok (.iload 7, 2) := by decide +kernel
theorem dX3_meets_120 : decode cX3_meets 120 = .ok (.istore 6, 2) := by decide +kernel
theorem dX3_meets_122 : decode cX3_meets 122 = .ok (.iinc 7 1, 3) := by decide +kernel
theorem dX3_meets_125 : decode cX3_meets 125 = .ok (.goto (-59), 3) := by decide +kernel
theorem dX3_meets_128 : decode cX3_meets 128 = .ok (.iload 6, 2) := by decide +kernel
theorem dX3_meets_130 : decode cX3_meets 130 = .ok (.iconst (-1), 1) := by decide +kernel
theorem dX3_meets_131 : decode cX3_meets 131 = .ok (.if_icmp .ne 5, 3) := by decide +kernel
theorem dX3_meets_134 : decode cX3_meets 134 = .ok (.iconst 0, 1) := by decide +kernel
theorem dX3_meets_135 : decode cX3_meets 135 = .ok (.ireturn, 1) := by decide +kernel
theorem dX3_meets_136 : decode cX3_meets 136 = .ok (.iload 5, 2) := by decide +kernel
theorem dX3_meets_138 : decode cX3_meets 138 = .ok (.iconst 1, 1) := by decide +kernel
theorem dX3_meets_139 : decode cX3_meets 139 = .ok (.iload 6, 2) := by decide +kernel
theorem dX3_meets_141 : decode cX3_meets 141 = .ok (.ishl, 1) := by decide +kernel
theorem dX3_meets_142 : decode cX3_meets 142 = .ok (.ior, 1) := by decide +kernel
theorem dX3_meets_143 : decode cX3_meets 143 = .ok (.istore 5, 2) := by decide +kernel
theorem dX3_meets_145 : decode cX3_meets 145 = .ok (.aload_n 0, 1) := by decide +kernel
theorem dX3_meets_146 : decode cX3_meets 146 = .ok (.getfield 39, 3) := by decide +kernel
theorem dX3_meets_149 : decode cX3_meets 149 = .ok (.iload 6, 2) := by decide +kernel
theorem dX3_meets_151 : decode cX3_meets 151 = .ok (.aload_n 0, 1) := by decide +kernel
theorem dX3_meets_152 : decode cX3_meets 152 = .ok (.iload 6, 2) := by decide +kernel
theorem dX3_meets_154 : decode cX3_meets 154 = .ok (.iconst 5, 1) := by decide +kernel
theorem dX3_meets_155 : decode cX3_meets 155 = .ok (.invokevirtual 95, 3) := by decide +kernel
theorem dX3_meets_158 : decode cX3_meets 158 = .ok (.iload 4, 2) := by decide +kernel
theorem dX3_meets_160 : decode cX3_meets 160 = .ok (.if_icmp .ge 13, 3) := by decide +kernel
theorem dX3_meets_163 : decode cX3_meets 163 = .ok (.aload_n 0, 1) := by decide +kernel
theorem dX3_meets_164 : decode cX3_meets 164 = .ok (.iload 6, 2) := by decide +kernel
theorem dX3_meets_166 : decode cX3_meets 166 = .ok (.iconst 5, 1) := by decide +kernel
theorem dX3_meets_167 : decode cX3_meets 167 = .ok (.invokevirtual 95, 3) := by decide +kernel
theorem dX3_meets_170 : decode cX3_meets 170 = .ok (.goto 5, 3) := by decide +kernel
theorem dX3_meets_173 : decode cX3_meets 173 = .ok (.iload 4, 2) := by decide +kernel
theorem dX3_meets_175 : decode cX3_meets 175 = .ok (.iastore, 1) := by decide +kernel
theorem dX3_meets_176 : decode cX3_meets 176 = .ok (.iload 4, 2) := by decide +kernel
theorem dX3_meets_178 : decode cX3_meets 178 = .ok (.aload_n 0, 1) := by decide +kernel
theorem dX3_meets_179 : decode cX3_meets 179 = .ok (.getfield 39, 3) := by decide +kernel
theorem dX3_meets_182 : decode cX3_meets 182 = .ok (.iload 6, 2) := by decide +kernel
theorem dX3_meets_184 : decode cX3_meets 184 = .ok (.iaload, 1) := by decide +kernel
theorem dX3_meets_185 : decode cX3_meets 185 = .ok (.isub, 1) := by decide +kernel
theorem dX3_meets_186 : decode cX3_meets 186 = .ok (.istore 4, 2) := by decide +kernel
theorem dX3_meets_188 : decode cX3_meets 188 = .ok (.goto (-133), 3) := by decide +kernel
theorem dX3_meets_191 : decode cX3_meets 191 = .ok (.iconst 1, 1) := by decide +kernel
theorem dX3_meets_192 : decode cX3_meets 192 = .ok (.ireturn, 1) := by decide +kernel
set_option maxRecDepth 20000 in
theorem ggX3_isMeeting_X3_isIn : GoodIn wsX3_isMeeting wsX3_isIn := goodIn_r _ [6] (by decide +kernel) (by decide +kernel)
set_option maxRecDepth 20000 in
theorem gX3_isMeeting_X3_isIn : GoodIn wsX3_isMeeting (va_wsS RX3 67 yX3_isIn wsX3_isIn) := goodIn_app (goodIn_of _ (by decide +kernel)) ggX3_isMeeting_X3_isIn
set_option maxRecDepth 20000 in
theorem ggX3_isMeeting_X3_isRate : GoodIn wsX3_isMeeting wsX3_isRate := goodIn_r _ [9, 10, 3, 4, 5, 6] (by decide +kernel) (by decide +kernel)
set_option maxRecDepth 20000 in
theorem gX3_isMeeting_X3_isRate : GoodIn wsX3_isMeeting (va_wsS RX3 132 yX3_isRate wsX3_isRate) := goodIn_app (goodIn_of _ (by decide +kernel)) ggX3_isMeeting_X3_isRate
theorem dX3_isMeeting_0 : decode cX3_isMeeting 0 = .ok (.iload_n 0, 1) := by decide +kernel
theorem dX3_isMeeting_1 : decode cX3_isMeeting 1 = .ok (.i2l, 1) := by decide +kernel
theorem dX3_isMeeting_2 : decode cX3_isMeeting 2 = .ok (.lconst 0, 1) := by decide +kernel
theorem dX3_isMeeting_3 : decode cX3_isMeeting 3 = .ok (.ldc2_w 79, 3) := by decide +kernel
theorem dX3_isMeeting_6 : decode cX3_isMeeting 6 = .ok (.invokestatic 67, 3) := by decide +kernel
theorem dX3_isMeeting_9 : decode cX3_isMeeting 9 = .ok (.ifCond .eq 26, 3) := by decide +kernel
theorem dX3_isMeeting_12 : decode cX3_isMeeting 12 = .ok (.iload_n 1, 1) := by decide +kernel
theorem dX3_isMeeting_13 : decode cX3_isMeeting 13 = .ok (.invokestatic 132, 3) := by decide +kernel
theorem dX3_isMeeting_16 : decode cX3_isMeeting 16 = .ok (.ifCond .eq 19, 3) := by decide +kernel
theorem dX3_isMeeting_19 : decode cX3_isMeeting 19 = .ok (.iload_n 2, 1) := by decide +kernel
theorem dX3_isMeeting_20 : decode cX3_isMeeting 20 = .ok (.i2l, 1) := by decide +kernel
theorem dX3_isMeeting_21 : decode cX3_isMeeting 21 = .ok (.lconst 0, 1) := by decide +kernel
theorem dX3_isMeeting_22 : decode cX3_isMeeting 22 = .ok (.ldc2_w 168, 3) := by decide +kernel
theorem dX3_isMeeting_25 : decode cX3_isMeeting 25 = .ok (.invokestatic 67, 3) := by decide +kernel
theorem dX3_isMeeting_28 : decode cX3_isMeeting 28 = .ok (.ifCond .eq 7, 3) := by decide +kernel
theorem dX3_isMeeting_31 : decode cX3_isMeeting 31 = .ok (.iconst 1, 1) := by decide +kernel
theorem dX3_isMeeting_32 : decode cX3_isMeeting 32 = .ok (.goto 4, 3) := by decide +kernel
theorem dX3_isMeeting_35 : decode cX3_isMeeting 35 = .ok (.iconst 0, 1) := by decide +kernel
theorem dX3_isMeeting_36 : decode cX3_isMeeting 36 = .ok (.ireturn, 1) := by decide +kernel
set_option maxRecDepth 20000 in
theorem ggX3_meet_X3_isMeeting : GoodIn wsX3_meet wsX3_isMeeting := goodIn_r _ [6, 7, 8, 9, 10, 5, 11, 12, 13, 14, 15] (by decide +kernel) (by decide +kernel)
set_option maxRecDepth 20000 in
theorem gX3_meet_X3_isMeeting : GoodIn wsX3_meet (va_wsS RX3 170 yX3_isMeeting wsX3_isMeeting) := goodIn_app (goodIn_of _ (by decide +kernel)) ggX3_meet_X3_isMeeting
set_option maxRecDepth 20000 in
theorem ggX3_meet_X3_isBond : GoodIn wsX3_meet wsX3_isBond := goodIn_r _ [19, 20, 9, 10, 5, 11, 70, 71, 72, 73, 74, 75, 76, 77, 78, 79, 80, 81, 82, 83, 84, 85, 86, 87, 88, 89] (by decide +kernel) (by decide +kernel)
set_option maxRecDepth 20000 in
theorem gX3_meet_X3_isBond : GoodIn wsX3_meet (wsV RX3 87 RX3 yX3_isBond wsX3_isBond) := goodIn_app (goodIn_of _ (by decide +kernel)) ggX3_meet_X3_isBond
set_option maxRecDepth 20000 in
theorem ggX3_meet_X3_meets : GoodIn wsX3_meet wsX3_meets := goodIn_r _ [24, 20, 2, 25, 26, 27, 28, 5, 29, 30, 31, 32, 33, 34, 35, 36, 37, 38, 39, 40, 41, 42, 43, 44, 45, 46, 47, 48, 49, 50, 51, 52, 53, 54, 55, 56, 57, 58, 59, 60, 61, 62, 63, 64, 65, 66, 67, 68, 69, 9, 10, 11, 70, 71, 72, 73, 74, 75, 76, 77, 78, 79, 80, 81, 82, 83, 84, 85, 86, 87, 88, 89] (by decide +kernel) (by decide +kernel)
set_option maxRecDepth 20000 in
theorem gX3_meet_X3_meets : GoodIn wsX3_meet (wsV RX3 173 RX3 yX3_meets wsX3_meets) := goodIn_app (goodIn_of _ (by decide +kernel)) ggX3_meet_X3_meets
theorem dX3_meet_0 : decode cX3_meet 0 = .ok (.aload_n 0, 1) := by decide +kernel
theorem dX3_meet_1 : decode cX3_meet 1 = .ok (.iconst 0, 1) := by decide +kernel
theorem dX3_meet_2 : decode cX3_meet 2 = .ok (.putfield 61, 3) := by decide +kernel
theorem dX3_meet_5 : decode cX3_meet 5 = .ok (.iload_n 1, 1) := by decide +kernel
theorem dX3_meet_6 : decode cX3_meet 6 = .ok (.iload_n 2, 1) := by decide +kernel
theorem dX3_meet_7 : decode cX3_meet 7 = .ok (.iload_n 3, 1) := by decide +kernel
theorem dX3_meet_8 : decode cX3_meet 8 = .ok (.invokestatic 170, 3) := by decide +kernel
theorem dX3_meet_11 : decode cX3_meet 11 = .ok (.ifCond .eq 18, 3) := by decide +kernel
theorem dX3_meet_14 : decode cX3_meet 14 = .ok (.iload 4, 2) := by decide +kernel
theorem dX3_meet_16 : decode cX3_meet 16 = .ok (.iconst (-1), 1) := by decide +kernel
theorem dX3_meet_17 : decode cX3_meet 17 = .ok (.if_icmp .eq 14, 3) := by decide +kernel
theorem dX3_meet_20 : decode cX3_meet 20 = .ok (.aload_n 0, 1) := by decide +kernel
theorem dX3_meet_21 : decode cX3_meet 21 = .ok (.iload 4, 2) := by decide +kernel
theorem dX3_meet_23 : decode cX3_meet 23 = .ok (.invokevirtual 87, 3) := by decide +kernel
theorem dX3_meet_26 : decode cX3_meet 26 = .ok (.ifCond .ne 5, 3) := by decide +kernel
theorem dX3_meet_29 : decode cX3_meet 29 = .ok (.iconst (-1), 1) := by decide +kernel
theorem dX3_meet_30 : decode cX3_meet 30 = .ok (.ireturn, 1) := by decide +kernel
theorem dX3_meet_31 : decode cX3_meet 31 = .ok (.aload_n 0, 1) := by decide +kernel
theorem dX3_meet_32 : decode cX3_meet 32 = .ok (.iload_n 1, 1) := by decide +kernel
theorem dX3_meet_33 : decode cX3_meet 33 = .ok (.iload_n 2, 1) := by decide +kernel
theorem dX3_meet_34 : decode cX3_meet 34 = .ok (.iload_n 3, 1) := by decide +kernel
theorem dX3_meet_35 : decode cX3_meet 35 = .ok (.invokevirtual 173, 3) := by decide +kernel
theorem dX3_meet_38 : decode cX3_meet 38 = .ok (.istore 5, 2) := by decide +kernel
theorem dX3_meet_40 : decode cX3_meet 40 = .ok (.iload 4, 2) := by decide +kernel
theorem dX3_meet_42 : decode cX3_meet 42 = .ok (.iconst (-1), 1) := by decide +kernel
theorem dX3_meet_43 : decode cX3_meet 43 = .ok (.if_icmp .ne 14, 3) := by decide +kernel
theorem dX3_meet_46 : decode cX3_meet 46 = .ok (.iload 5, 2) := by decide +kernel
theorem dX3_meet_48 : decode cX3_meet 48 = .ok (.ifCond .eq 7, 3) := by decide +kernel
theorem dX3_meet_51 : decode cX3_meet 51 = .ok (.iconst 1, 1) := by decide +kernel
theorem dX3_meet_52 : decode cX3_meet 52 = .ok (.goto 4, 3) := by decide +kernel
theorem dX3_meet_55 : decode cX3_meet 55 = .ok (.iconst 0, 1) := by decide +kernel
theorem dX3_meet_56 : decode cX3_meet 56 = .ok (.ireturn, 1) := by decide +kernel
theorem dX3_meet_57 : decode cX3_meet 57 = .ok (.iload 5, 2) := by decide +kernel
theorem dX3_meet_59 : decode cX3_meet 59 = .ok (.ifCond .eq 13, 3) := by decide +kernel
theorem dX3_meet_62 : decode cX3_meet 62 = .ok (.aload_n 0, 1) := by decide +kernel
theorem dX3_meet_63 : decode cX3_meet 63 = .ok (.getfield 39, 3) := by decide +kernel
theorem dX3_meet_66 : decode cX3_meet 66 = .ok (.iload 4, 2) := by decide +kernel
theorem dX3_meet_68 : decode cX3_meet 68 = .ok (.iaload, 1) := by decide +kernel
theorem dX3_meet_69 : decode cX3_meet 69 = .ok (.goto 4, 3) := by decide +kernel
theorem dX3_meet_72 : decode cX3_meet 72 = .ok (.iconst (-1), 1) := by decide +kernel
theorem dX3_meet_73 : decode cX3_meet 73 = .ok (.ireturn, 1) := by decide +kernel
set_option maxRecDepth 20000 in
theorem ggX3_cost_X3_isMeeting : GoodIn wsX3_cost wsX3_isMeeting := goodIn_r _ [8, 9, 10, 11, 12, 7, 13, 14, 15, 16, 17] (by decide +kernel) (by decide +kernel)
set_option maxRecDepth 20000 in
theorem gX3_cost_X3_isMeeting : GoodIn wsX3_cost (va_wsS RX3 170 yX3_isMeeting wsX3_isMeeting) := goodIn_app (goodIn_of _ (by decide +kernel)) ggX3_cost_X3_isMeeting
set_option maxRecDepth 20000 in
theorem ggX3_cost_X3_meets : GoodIn wsX3_cost wsX3_meets := goodIn_r _ [21, 2, 3, 4, 22, 23, 24, 7, 25, 26, 27, 28, 29, 30, 31, 32, 33, 34, 35, 36, 37, 38, 39, 40, 41, 42, 43, 44, 45, 46, 47, 48, 49, 50, 51, 52, 53, 54, 55, 56, 57, 58, 59, 60, 61, 62, 63, 64, 65, 11, 12, 13, 70, 71, 72, 73, 74, 75, 76, 77, 78, 79, 80, 81, 82, 83, 84, 85, 86, 87, 88, 89] (by decide +kernel) (by decide +kernel)
set_option maxRecDepth 20000 in
theorem gX3_cost_X3_meets : GoodIn wsX3_cost (wsV RX3 173 RX3 yX3_meets wsX3_meets) := goodIn_app (goodIn_of _ (by decide +kernel)) ggX3_cost_X3_meets
set_option maxRecDepth 20000 in
theorem ggX3_cost_X3_refuse : GoodIn wsX3_cost wsX3_refuse := goodIn_r _ [69, 1, 70, 71, 72, 73, 74, 75, 76, 77, 78, 79, 80, 81, 82, 83, 84, 85, 86, 87, 88, 89] (by decide +kernel) (by decide +kernel)
set_option maxRecDepth 20000 in
theorem gX3_cost_X3_refuse : GoodIn wsX3_cost (wsV RX3 127 RX3 yX3_refuse wsX3_refuse) := goodIn_app (goodIn_of _ (by decide +kernel)) ggX3_cost_X3_refuse
theorem dX3_cost_0 : decode cX3_cost 0 = .ok (.aload_n 0, 1) := by decide +kernel
theorem dX3_cost_1 : decode cX3_cost 1 = .ok (.iconst 0, 1) := by decide +kernel
theorem dX3_cost_2 : decode cX3_cost 2 = .ok (.putfield 61, 3) := by decide +kernel
theorem dX3_cost_5 : decode cX3_cost 5 = .ok (.iload_n 1, 1) := by decide +kernel
theorem dX3_cost_6 : decode cX3_cost 6 = .ok (.iload_n 2, 1) := by decide +kernel
theorem dX3_cost_7 : decode cX3_cost 7 = .ok (.iload_n 3, 1) := by decide +kernel
theorem dX3_cost_8 : decode cX3_cost 8 = .ok (.invokestatic 170, 3) := by decide +kernel
theorem dX3_cost_11 : decode cX3_cost 11 = .ok (.ifCond .eq 13, 3) := by decide +kernel
theorem dX3_cost_14 : decode cX3_cost 14 = .ok (.aload_n 0, 1) := by decide +kernel
theorem dX3_cost_15 : decode cX3_cost 15 = .ok (.iload_n 1, 1) := by decide +kernel
theorem dX3_cost_16 : decode cX3_cost 16 = .ok (.iload_n 2, 1) := by decide +kernel
theorem dX3_cost_17 : decode cX3_cost 17 = .ok (.iload_n 3, 1) := by decide +kernel
theorem dX3_cost_18 : decode cX3_cost 18 = .ok (.invokevirtual 173, 3) := by decide +kernel
theorem dX3_cost_21 : decode cX3_cost 21 = .ok (.ifCond .ne 9, 3) := by decide +kernel
theorem dX3_cost_24 : decode cX3_cost 24 = .ok (.aload_n 0, 1) := by decide +kernel
theorem dX3_cost_25 : decode cX3_cost 25 = .ok (.invokevirtual 127, 3) := by decide +kernel
theorem dX3_cost_28 : decode cX3_cost 28 = .ok (.i2l, 1) := by decide +kernel
theorem dX3_cost_29 : decode cX3_cost 29 = .ok (.lreturn, 1) := by decide +kernel
theorem dX3_cost_30 : decode cX3_cost 30 = .ok (.lconst 0, 1) := by decide +kernel
theorem dX3_cost_31 : decode cX3_cost 31 = .ok (.lstore 4, 2) := by decide +kernel
theorem dX3_cost_33 : decode cX3_cost 33 = .ok (.iconst 0, 1) := by decide +kernel
theorem dX3_cost_34 : decode cX3_cost 34 = .ok (.istore 6, 2) := by decide +kernel
theorem dX3_cost_36 : decode cX3_cost 36 = .ok (.iload 6, 2) := by decide +kernel
theorem dX3_cost_38 : decode cX3_cost 38 = .ok (.aload_n 0, 1) := by decide +kernel
theorem dX3_cost_39 : decode cX3_cost 39 = .ok (.getfield 64, 3) := by decide +kernel
theorem dX3_cost_42 : decode cX3_cost 42 = .ok (.if_icmp .ge 30, 3) := by decide +kernel
theorem dX3_cost_45 : decode cX3_cost 45 = .ok (.lload 4, 2) := by decide +kernel
theorem dX3_cost_47 : decode cX3_cost 47 = .ok (.aload_n 0, 1) := by decide +kernel
theorem dX3_cost_48 : decode cX3_cost 48 = .ok (.getfield 39, 3) := by decide +kernel
theorem dX3_cost_51 : decode cX3_cost 51 = .ok (.iload 6, 2) := by decide +kernel
theorem dX3_cost_53 : decode cX3_cost 53 = .ok (.iaload, 1) := by decide +kernel
theorem dX3_cost_54 : decode cX3_cost 54 = .ok (.i2l, 1) := by decide +kernel
theorem dX3_cost_55 : decode cX3_cost 55 = .ok (.aload_n 0, 1) := by decide +kernel
theorem dX3_cost_56 : decode cX3_cost 56 = .ok (.getfield 42, 3) := by decide +kernel
theorem dX3_cost_59 : decode cX3_cost 59 = .ok (.iload 6, 2) := by decide +kernel
theorem dX3_cost_61 : decode cX3_cost 61 = .ok (.laload, 1) := by decide +kernel
theorem dX3_cost_62 : decode cX3_cost 62 = .ok (.lmul, 1) := by decide +kernel
theorem dX3_cost_63 : decode cX3_cost 63 = .ok (.ladd, 1) := by decide +kernel
theorem dX3_cost_64 : decode cX3_cost 64 = .ok (.lstore 4, 2) := by decide +kernel
theorem dX3_cost_66 : decode cX3_cost 66 = .ok (.iinc 6 1, 3) := by decide +kernel
theorem dX3_cost_69 : decode cX3_cost 69 = .ok (.goto (-33), 3) := by decide +kernel
theorem dX3_cost_72 : decode cX3_cost 72 = .ok (.lload 4, 2) := by decide +kernel
theorem dX3_cost_74 : decode cX3_cost 74 = .ok (.lreturn, 1) := by decide +kernel
set_option maxRecDepth 20000 in
theorem ggX3_tree_X3_isIn : GoodIn wsX3_tree wsX3_isIn := goodIn_r _ [15] (by decide +kernel) (by decide +kernel)
set_option maxRecDepth 20000 in
theorem gX3_tree_X3_isIn : GoodIn wsX3_tree (va_wsS RX3 67 yX3_isIn wsX3_isIn) := goodIn_app (goodIn_of _ (by decide +kernel)) ggX3_tree_X3_isIn
set_option maxRecDepth 20000 in
theorem ggX3_tree_X3_isRate : GoodIn wsX3_tree wsX3_isRate := goodIn_r _ [18, 19, 12, 13, 14, 15] (by decide +kernel) (by decide +kernel)
set_option maxRecDepth 20000 in
theorem gX3_tree_X3_isRate : GoodIn wsX3_tree (va_wsS RX3 132 yX3_isRate wsX3_isRate) := goodIn_app (goodIn_of _ (by decide +kernel)) ggX3_tree_X3_isRate
theorem dX3_tree_0 : decode cX3_tree 0 = .ok (.aload_n 0, 1) := by decide +kernel
theorem dX3_tree_1 : decode cX3_tree 1 = .ok (.iconst 0, 1) := by decide +kernel
theorem dX3_tree_2 : decode cX3_tree 2 = .ok (.putfield 61, 3) := by decide +kernel
theorem dX3_tree_5 : decode cX3_tree 5 = .ok (.iload_n 1, 1) := by decide +kernel
theorem dX3_tree_6 : decode cX3_tree 6 = .ok (.i2l, 1) := by decide +kernel
theorem dX3_tree_7 : decode cX3_tree 7 = .ok (.lconst 0, 1) := by decide +kernel
theorem dX3_tree_8 : decode cX3_tree 8 = .ok (.ldc2_w 176, 3) := by decide +kernel
theorem dX3_tree_11 : decode cX3_tree 11 = .ok (.invokestatic 67, 3) := by decide +kernel
theorem dX3_tree_14 : decode cX3_tree 14 = .ok (.ifCond .eq 50, 3) := by decide +kernel
theorem dX3_tree_17 : decode cX3_tree 17 = .ok (.iload_n 2, 1) := by decide +kernel
theorem dX3_tree_18 : decode cX3_tree 18 = .ok (.invokestatic 132, 3) := by decide +kernel
theorem dX3_tree_21 : decode cX3_tree 21 = .ok (.ifCond .eq 43, 3) := by decide +kernel
theorem dX3_tree_24 : decode cX3_tree 24 = .ok (.iload_n 3, 1) := by decide +kernel
theorem dX3_tree_25 : decode cX3_tree 25 = .ok (.i2l, 1) := by decide +kernel
theorem dX3_tree_26 : decode cX3_tree 26 = .ok (.lconst 0, 1) := by decide +kernel
theorem dX3_tree_27 : decode cX3_tree 27 = .ok (.ldc2_w 178, 3) := by decide +kernel
theorem dX3_tree_30 : decode cX3_tree 30 = .ok (.invokestatic 67, 3) := by decide +kernel
theorem dX3_tree_33 : decode cX3_tree 33 = .ok (.ifCond .eq 31, 3) := by decide +kernel
theorem dX3_tree_36 : decode cX3_tree 36 = .ok (.iload 4, 2) := by decide +kernel
theorem dX3_tree_38 : decode cX3_tree 38 = .ok (.i2l, 1) := by decide +kernel
theorem dX3_tree_39 : decode cX3_tree 39 = .ok (.ldc2_w 180, 3) := by decide +kernel
theorem dX3_tree_42 : decode cX3_tree 42 = .ok (.ldc2_w 182, 3) := by decide +kernel
theorem dX3_tree_45 : decode cX3_tree 45 = .ok (.invokestatic 67, 3) := by decide +kernel
theorem dX3_tree_48 : decode cX3_tree 48 = .ok (.ifCond .eq 16, 3) := by decide +kernel
theorem dX3_tree_51 : decode cX3_tree 51 = .ok (.iload 5, 2) := by decide +kernel
theorem dX3_tree_53 : decode cX3_tree 53 = .ok (.i2l, 1) := by decide +kernel
theorem dX3_tree_54 : decode cX3_tree 54 = .ok (.lconst 0, 1) := by decide +kernel
theorem dX3_tree_55 : decode cX3_tree 55 = .ok (.ldc2_w 168, 3) := by decide +kernel
theorem dX3_tree_58 : decode cX3_tree 58 = .ok (.invokestatic 67, 3) := by decide +kernel
theorem dX3_tree_61 : decode cX3_tree 61 = .ok (.ifCond .ne 5, 3) := by decide +kernel
theorem dX3_tree_64 : decode cX3_tree 64 = .ok (.iconst 0, 1) := by decide +kernel
theorem dX3_tree_65 : decode cX3_tree 65 = .ok (.ireturn, 1) := by decide +kernel
theorem dX3_tree_66 : decode cX3_tree 66 = .ok (.aload_n 0, 1) := by decide +kernel
theorem dX3_tree_67 : decode cX3_tree 67 = .ok (.getfield 141, 3) := by decide +kernel
theorem dX3_tree_70 : decode cX3_tree 70 = .ok (.iload_n 1, 1) := by decide +kernel
theorem dX3_tree_71 : decode cX3_tree 71 = .ok (.if_icmp .ne 39, 3) := by decide +kernel
theorem dX3_tree_74 : decode cX3_tree 74 = .ok (.aload_n 0, 1) := by decide +kernel
theorem dX3_tree_75 : decode cX3_tree 75 = .ok (.getfield 23, 3) := by decide +kernel
theorem dX3_tree_78 : decode cX3_tree 78 = .ok (.iload_n 2, 1) := by decide +kernel
theorem dX3_tree_79 : decode cX3_tree 79 = .ok (.if_icmp .ne 31, 3) := by decide +kernel
theorem dX3_tree_82 : decode cX3_tree 82 = .ok (.aload_n 0, 1) := by decide +kernel
theorem dX3_tree_83 : decode cX3_tree 83 = .ok (.getfield 26, 3) := by decide +kernel
theorem dX3_tree_86 : decode cX3_tree 86 = .ok (.iload_n 3, 1) := by decide +kernel
theorem dX3_tree_87 : decode cX3_tree 87 = .ok (.if_icmp .ne 23, 3) := by decide +kernel
theorem dX3_tree_90 : decode cX3_tree 90 = .ok (.aload_n 0, 1) := by decide +kernel
theorem dX3_tree_91 : decode cX3_tree 91 = .ok (.getfield 144, 3) := by decide +kernel
theorem dX3_tree_94 : decode cX3_tree 94 = .ok (.iload 4, 2) := by decide +kernel
theorem dX3_tree_96 : decode cX3_tree 96 = .ok (.if_icmp .ne 14, 3) := by decide +kernel
theorem dX3_tree_99 : decode cX3_tree 99 = .ok (.aload_n 0, 1) := by decide +kernel
theorem dX3_tree_100 : decode cX3_tree 100 = .ok (.getfield 30, 3) := by decide +kernel
theorem dX3_tree_103 : decode cX3_tree 103 = .ok (.iload 5, 2) := by decide +kernel
theorem dX3_tree_105 : decode cX3_tree 105 = .ok (.if_icmp .ne 5, 3) := by decide +kernel
theorem dX3_tree_108 : decode cX3_tree 108 = .ok (.iconst 0, 1) := by decide +kernel
theorem dX3_tree_109 : decode cX3_tree 109 = .ok (.ireturn, 1) := by decide +kernel
theorem dX3_tree_110 : decode cX3_tree 110 = .ok (.aload_n 0, 1) := by decide +kernel
theorem dX3_tree_111 : decode cX3_tree 111 = .ok (.iload_n 1, 1) := by decide +kernel
theorem dX3_tree_112 : decode cX3_tree 112 = .ok (.putfield 141, 3) := by decide +kernel
theorem dX3_tree_115 : decode cX3_tree 115 = .ok (.aload_n 0, 1) := by decide +kernel
theorem dX3_tree_116 : decode cX3_tree 116 = .ok (.iload_n 2, 1) := by decide +kernel
theorem dX3_tree_117 : decode cX3_tree 117 = .ok (.putfield 23, 3) := by decide +kernel
theorem dX3_tree_120 : decode cX3_tree 120 = .ok (.aload_n 0, 1) := by decide +kernel
theorem dX3_tree_121 : decode cX3_tree 121 = .ok (.iload_n 3, 1) := by decide +kernel
theorem dX3_tree_122 : decode cX3_tree 122 = .ok (.putfield 26, 3) := by decide +kernel
theorem dX3_tree_125 : decode cX3_tree 125 = .ok (.aload_n 0, 1) := by decide +kernel
theorem dX3_tree_126 : decode cX3_tree 126 = .ok (.iload 4, 2) := by decide +kernel
theorem dX3_tree_128 : decode cX3_tree 128 = .ok (.putfield 144, 3) := by decide +kernel
theorem dX3_tree_131 : decode cX3_tree 131 = .ok (.aload_n 0, 1) := by decide +kernel
theorem dX3_tree_132 : decode cX3_tree 132 = .ok (.iload 5, 2) := by decide +kernel
theorem dX3_tree_134 : decode cX3_tree 134 = .ok (.putfield 30, 3) := by decide +kernel
theorem dX3_tree_137 : decode cX3_tree 137 = .ok (.iconst 1, 1) := by decide +kernel
theorem dX3_tree_138 : decode cX3_tree 138 = .ok (.ireturn, 1) := by decide +kernel
set_option maxRecDepth 20000 in
theorem ggX3_isNode_X3_isIn : GoodIn wsX3_isNode wsX3_isIn := goodIn_r _ [5] (by decide +kernel) (by decide +kernel)
set_option maxRecDepth 20000 in
theorem gX3_isNode_X3_isIn : GoodIn wsX3_isNode (va_wsS RX3 67 yX3_isIn wsX3_isIn) := goodIn_app (goodIn_of _ (by decide +kernel)) ggX3_isNode_X3_isIn
theorem dX3_isNode_0 : decode cX3_isNode 0 = .ok (.iload_n 1, 1) := by decide +kernel
theorem dX3_isNode_1 : decode cX3_isNode 1 = .ok (.i2l, 1) := by decide +kernel
theorem dX3_isNode_2 : decode cX3_isNode 2 = .ok (.lconst 0, 1) := by decide +kernel
theorem dX3_isNode_3 : decode cX3_isNode 3 = .ok (.aload_n 0, 1) := by decide +kernel
theorem dX3_isNode_4 : decode cX3_isNode 4 = .ok (.getfield 141, 3) := by decide +kernel
theorem dX3_isNode_7 : decode cX3_isNode 7 = .ok (.i2l, 1) := by decide +kernel
theorem dX3_isNode_8 : decode cX3_isNode 8 = .ok (.invokestatic 67, 3) := by decide +kernel
theorem dX3_isNode_11 : decode cX3_isNode 11 = .ok (.ifCond .eq 18, 3) := by decide +kernel
theorem dX3_isNode_14 : decode cX3_isNode 14 = .ok (.iload_n 2, 1) := by decide +kernel
theorem dX3_isNode_15 : decode cX3_isNode 15 = .ok (.i2l, 1) := by decide +kernel
theorem dX3_isNode_16 : decode cX3_isNode 16 = .ok (.lconst 0, 1) := by decide +kernel
theorem dX3_isNode_17 : decode cX3_isNode 17 = .ok (.iload_n 1, 1) := by decide +kernel
theorem dX3_isNode_18 : decode cX3_isNode 18 = .ok (.i2l, 1) := by decide +kernel
theorem dX3_isNode_19 : decode cX3_isNode 19 = .ok (.invokestatic 67, 3) := by decide +kernel
theorem dX3_isNode_22 : decode cX3_isNode 22 = .ok (.ifCond .eq 7, 3) := by decide +kernel
theorem dX3_isNode_25 : decode cX3_isNode 25 = .ok (.iconst 1, 1) := by decide +kernel
theorem dX3_isNode_26 : decode cX3_isNode 26 = .ok (.goto 4, 3) := by decide +kernel
theorem dX3_isNode_29 : decode cX3_isNode 29 = .ok (.iconst 0, 1) := by decide +kernel
theorem dX3_isNode_30 : decode cX3_isNode 30 = .ok (.ireturn, 1) := by decide +kernel
theorem dX3_rate1_0 : decode cX3_rate1 0 = .ok (.aload_n 0, 1) := by decide +kernel
theorem dX3_rate1_1 : decode cX3_rate1 1 = .ok (.getfield 23, 3) := by decide +kernel
theorem dX3_rate1_4 : decode cX3_rate1 4 = .ok (.aload_n 0, 1) := by decide +kernel
theorem dX3_rate1_5 : decode cX3_rate1 5 = .ok (.getfield 26, 3) := by decide +kernel
theorem dX3_rate1_8 : decode cX3_rate1 8 = .ok (.iconst 2, 1) := by decide +kernel
theorem dX3_rate1_9 : decode cX3_rate1 9 = .ok (.iload_n 2, 1) := by decide +kernel
theorem dX3_rate1_10 : decode cX3_rate1 10 = .ok (.imul, 1) := by decide +kernel
theorem dX3_rate1_11 : decode cX3_rate1 11 = .ok (.iload_n 1, 1) := by decide +kernel
theorem dX3_rate1_12 : decode cX3_rate1 12 = .ok (.isub, 1) := by decide +kernel
theorem dX3_rate1_13 : decode cX3_rate1 13 = .ok (.imul, 1) := by decide +kernel
theorem dX3_rate1_14 : decode cX3_rate1 14 = .ok (.iadd, 1) := by decide +kernel
theorem dX3_rate1_15 : decode cX3_rate1 15 = .ok (.istore_n 3, 1) := by decide +kernel
theorem dX3_rate1_16 : decode cX3_rate1 16 = .ok (.iload_n 3, 1) := by decide +kernel
theorem dX3_rate1_17 : decode cX3_rate1 17 = .ok (.ifCond .ge 7, 3) := by decide +kernel
theorem dX3_rate1_20 : decode cX3_rate1 20 = .ok (.iconst 0, 1) := by decide +kernel
theorem dX3_rate1_21 : decode cX3_rate1 21 = .ok (.goto 17, 3) := by decide +kernel
theorem dX3_rate1_24 : decode cX3_rate1 24 = .ok (.iload_n 3, 1) := by decide +kernel
theorem dX3_rate1_25 : decode cX3_rate1 25 = .ok (.sipush 3000, 3) := by decide +kernel
theorem dX3_rate1_28 : decode cX3_rate1 28 = .ok (.if_icmp .le 9, 3) := by decide +kernel
theorem dX3_rate1_31 : decode cX3_rate1 31 = .ok (.sipush 3000, 3) := by decide +kernel
theorem dX3_rate1_34 : decode cX3_rate1 34 = .ok (.goto 4, 3) := by decide +kernel
theorem dX3_rate1_37 : decode cX3_rate1 37 = .ok (.iload_n 3, 1) := by decide +kernel
theorem dX3_rate1_38 : decode cX3_rate1 38 = .ok (.ireturn, 1) := by decide +kernel
set_option maxRecDepth 20000 in
theorem ggX3_rate_X3_isNode : GoodIn wsX3_rate wsX3_isNode := goodIn_r _ [6, 7, 8, 9, 5, 10, 17, 18, 19, 20, 21, 22, 23, 24, 25, 26, 27, 28, 29, 30, 31, 32, 33, 34, 35, 36] (by decide +kernel) (by decide +kernel)
set_option maxRecDepth 20000 in
theorem gX3_rate_X3_isNode : GoodIn wsX3_rate (wsV RX3 184 RX3 yX3_isNode wsX3_isNode) := goodIn_app (goodIn_of _ (by decide +kernel)) ggX3_rate_X3_isNode
set_option maxRecDepth 20000 in
theorem ggX3_rate_X3_rate1 : GoodIn wsX3_rate wsX3_rate1 := goodIn_r _ [14, 15, 16, 17, 18, 19, 20, 21, 22, 23, 24, 25, 26, 27, 28, 29, 30, 31, 32, 33, 34, 35, 36] (by decide +kernel) (by decide +kernel)
set_option maxRecDepth 20000 in
theorem gX3_rate_X3_rate1 : GoodIn wsX3_rate (wsV RX3 188 RX3 yX3_rate1 wsX3_rate1) := goodIn_app (goodIn_of _ (by decide +kernel)) ggX3_rate_X3_rate1
theorem dX3_rate_0 : decode cX3_rate 0 = .ok (.aload_n 0, 1) := by decide +kernel
theorem dX3_rate_1 : decode cX3_rate 1 = .ok (.iconst 0, 1) := by decide +kernel
theorem dX3_rate_2 : decode cX3_rate 2 = .ok (.putfield 61, 3) := by decide +kernel
theorem dX3_rate_5 : decode cX3_rate 5 = .ok (.aload_n 0, 1) := by decide +kernel
theorem dX3_rate_6 : decode cX3_rate 6 = .ok (.iload_n 1, 1) := by decide +kernel
theorem dX3_rate_7 : decode cX3_rate 7 = .ok (.iload_n 2, 1) := by decide +kernel
theorem dX3_rate_8 : decode cX3_rate 8 = .ok (.invokevirtual 184, 3) := by decide +kernel
theorem dX3_rate_11 : decode cX3_rate 11 = .ok (.ifCond .eq 12, 3) := by decide +kernel
theorem dX3_rate_14 : decode cX3_rate 14 = .ok (.aload_n 0, 1) := by decide +kernel
theorem dX3_rate_15 : decode cX3_rate 15 = .ok (.iload_n 1, 1) := by decide +kernel
theorem dX3_rate_16 : decode cX3_rate 16 = .ok (.iload_n 2, 1) := by decide +kernel
theorem dX3_rate_17 : decode cX3_rate 17 = .ok (.invokevirtual 188, 3) := by decide +kernel
theorem dX3_rate_20 : decode cX3_rate 20 = .ok (.goto 4, 3) := by decide +kernel
theorem dX3_rate_23 : decode cX3_rate 23 = .ok (.iconst (-1), 1) := by decide +kernel
theorem dX3_rate_24 : decode cX3_rate 24 = .ok (.ireturn, 1) := by decide +kernel
set_option maxRecDepth 20000 in
theorem ggX3_laysNow_X3_isEligible : GoodIn wsX3_laysNow wsX3_isEligible := goodIn_r _ [9, 10, 11, 12, 13, 14, 15, 16, 8, 17, 18, 19, 20, 21, 22, 23, 24, 25, 26, 27, 28, 29, 30, 31, 32, 33, 34, 35, 36, 37, 38, 39, 40, 41, 42, 43, 44, 59, 60, 61, 62, 63, 64, 65, 66, 67, 68, 69, 70, 71, 72, 73, 74, 75, 76, 77, 78] (by decide +kernel) (by decide +kernel)
set_option maxRecDepth 20000 in
theorem gX3_laysNow_X3_isEligible : GoodIn wsX3_laysNow (wsV RX3 120 RX3 yX3_isEligible wsX3_isEligible) := goodIn_app (goodIn_of _ (by decide +kernel)) ggX3_laysNow_X3_isEligible
set_option maxRecDepth 20000 in
theorem ggX3_laysNow_X3_invoice : GoodIn wsX3_laysNow wsX3_invoice := goodIn_r _ [48, 27, 22, 23, 24, 8, 25, 26, 28, 29, 30, 31, 14, 15, 16, 17, 18, 32, 33, 34, 35, 36, 37, 38, 39, 40, 41, 42, 43, 44, 59, 60, 61, 62, 63, 64, 65, 66, 67, 68, 69, 70, 71, 72, 73, 74, 75, 76, 77, 78] (by decide +kernel) (by decide +kernel)
set_option maxRecDepth 20000 in
theorem gX3_laysNow_X3_invoice : GoodIn wsX3_laysNow (wsV RX3 164 RX3 yX3_invoice wsX3_invoice) := goodIn_app (goodIn_of _ (by decide +kernel)) ggX3_laysNow_X3_invoice
set_option maxRecDepth 20000 in
theorem ggX3_laysNow_X3_rate1 : GoodIn wsX3_laysNow wsX3_rate1 := goodIn_r _ [52, 53, 54, 59, 60, 61, 62, 63, 64, 65, 66, 67, 68, 69, 70, 71, 72, 73, 74, 75, 76, 77, 78] (by decide +kernel) (by decide +kernel)
set_option maxRecDepth 20000 in
theorem gX3_laysNow_X3_rate1 : GoodIn wsX3_laysNow (wsV RX3 188 RX3 yX3_rate1 wsX3_rate1) := goodIn_app (goodIn_of _ (by decide +kernel)) ggX3_laysNow_X3_rate1
set_option maxRecDepth 20000 in
theorem ggX3_laysNow_X3_price1 : GoodIn wsX3_laysNow wsX3_price1 := goodIn_r _ [58, 14, 15, 16, 8, 17, 18, 28, 29, 30, 31, 27, 32, 33, 34, 35, 36, 37, 38, 39, 40, 41, 42, 43, 44, 59, 60, 61, 62, 63, 64, 65, 66, 67, 68, 69, 70, 71, 72, 73, 74, 75, 76, 77, 78] (by decide +kernel) (by decide +kernel)
set_option maxRecDepth 20000 in
theorem gX3_laysNow_X3_price1 : GoodIn wsX3_laysNow (wsV RX3 135 RX3 yX3_price1 wsX3_price1) := goodIn_app (goodIn_of _ (by decide +kernel)) ggX3_laysNow_X3_price1
theorem dX3_laysNow_0 : decode cX3_laysNow 0 = .ok (.bipush 21, 2) := by decide +kernel
theorem dX3_laysNow_2 : decode cX3_laysNow 2 = .ok (.iload_n 1, 1) := by decide +kernel
theorem dX3_laysNow_3 : decode cX3_laysNow 3 = .ok (.imul, 1) := by decide +kernel
theorem dX3_laysNow_4 : decode cX3_laysNow 4 = .ok (.iload_n 2, 1) := by decide +kernel
theorem dX3_laysNow_5 : decode cX3_laysNow 5 = .ok (.iadd, 1) := by decide +kernel
theorem dX3_laysNow_6 : decode cX3_laysNow 6 = .ok (.istore_n 3, 1) := by decide +kernel
theorem dX3_laysNow_7 : decode cX3_laysNow 7 = .ok (.aload_n 0, 1) := by decide +kernel
theorem dX3_laysNow_8 : decode cX3_laysNow 8 = .ok (.getfield 55, 3) := by decide +kernel
theorem dX3_laysNow_11 : decode cX3_laysNow 11 = .ok (.iload_n 3, 1) := by decide +kernel
theorem dX3_laysNow_12 : decode cX3_laysNow 12 = .ok (.iconst (-1), 1) := by decide +kernel
theorem dX3_laysNow_13 : decode cX3_laysNow 13 = .ok (.iastore, 1) := by decide +kernel
theorem dX3_laysNow_14 : decode cX3_laysNow 14 = .ok (.iconst 0, 1) := by decide +kernel
theorem dX3_laysNow_15 : decode cX3_laysNow 15 = .ok (.istore 4, 2) := by decide +kernel
theorem dX3_laysNow_17 : decode cX3_laysNow 17 = .ok (.iload 4, 2) := by decide +kernel
theorem dX3_laysNow_19 : decode cX3_laysNow 19 = .ok (.aload_n 0, 1) := by decide +kernel
theorem dX3_laysNow_20 : decode cX3_laysNow 20 = .ok (.getfield 64, 3) := by decide +kernel
theorem dX3_laysNow_23 : decode cX3_laysNow 23 = .ok (.if_icmp .ge 88, 3) := by decide +kernel
theorem dX3_laysNow_26 : decode cX3_laysNow 26 = .ok (.aload_n 0, 1) := by decide +kernel
theorem dX3_laysNow_27 : decode cX3_laysNow 27 = .ok (.iload 4, 2) := by decide +kernel
theorem dX3_laysNow_29 : decode cX3_laysNow 29 = .ok (.invokevirtual 120, 3) := by decide +kernel
theorem dX3_laysNow_32 : decode cX3_laysNow 32 = .ok (.ifCond .ne 6, 3) := by decide +kernel
theorem dX3_laysNow_35 : decode cX3_laysNow 35 = .ok (.goto 70, 3) := by decide +kernel
theorem dX3_laysNow_38 : decode cX3_laysNow 38 = .ok (.aload_n 0, 1) := by decide +kernel
theorem dX3_laysNow_39 : decode cX3_laysNow 39 = .ok (.iload 4, 2) := by decide +kernel
theorem dX3_laysNow_41 : decode cX3_laysNow 41 = .ok (.aload_n 0, 1) := by decide +kernel
theorem dX3_laysNow_42 : decode cX3_laysNow 42 = .ok (.getfield 30, 3) := by decide +kernel
theorem dX3_laysNow_45 : decode cX3_laysNow 45 = .ok (.i2l, 1) := by decide +kernel
theorem dX3_laysNow_46 : decode cX3_laysNow 46 = .ok (.invokevirtual 164, 3) := by decide +kernel
theorem dX3_laysNow_49 : decode cX3_laysNow 49 = .ok (.aload_n 0, 1) := by decide +kernel
theorem dX3_laysNow_50 : decode cX3_laysNow 50 = .ok (.iload 4, 2) := by decide +kernel
theorem dX3_laysNow_52 : decode cX3_laysNow 52 = .ok (.aload_n 0, 1) := by decide +kernel
theorem dX3_laysNow_53 : decode cX3_laysNow 53 = .ok (.iload_n 1, 1) := by decide +kernel
theorem dX3_laysNow_54 : decode cX3_laysNow 54 = .ok (.iload_n 2, 1) := by decide +kernel
theorem dX3_laysNow_55 : decode cX3_laysNow 55 = .ok (.invokevirtual 188, 3) := by decide +kernel
theorem dX3_laysNow_58 : decode cX3_laysNow 58 = .ok (.invokevirtual 135, 3) := by decide +kernel
theorem dX3_laysNow_61 : decode cX3_laysNow 61 = .ok (.lsub, 1) := by decide +kernel
theorem dX3_laysNow_62 : decode cX3_laysNow 62 = .ok (.lstore 5, 2) := by decide +kernel
theorem dX3_laysNow_64 : decode cX3_laysNow 64 = .ok (.aload_n 0, 1) := by decide +kernel
theorem dX3_laysNow_65 : decode cX3_laysNow 65 = .ok (.getfield 55, 3) := by decide +kernel
theorem dX3_laysNow_68 : decode cX3_laysNow 68 = .ok (.iload_n 3, 1) := by decide +kernel
theorem dX3_laysNow_69 : decode cX3_laysNow 69 = .ok (.iaload, 1) := by decide +kernel
theorem dX3_laysNow_70 : decode cX3_laysNow 70 = .ok (.iconst (-1), 1) := by decide +kernel
theorem dX3_laysNow_71 : decode cX3_laysNow 71 = .ok (.if_icmp .eq 18, 3) := by decide +kernel
theorem dX3_laysNow_74 : decode cX3_laysNow 74 = .ok (.lload 5, 2) := by decide +kernel
theorem dX3_laysNow_76 : decode cX3_laysNow 76 = .ok (.aload_n 0, 1) := by decide +kernel
theorem dX3_laysNow_77 : decode cX3_laysNow 77 = .ok (.getfield 49, 3) := by decide +kernel
theorem dX3_laysNow_80 : decode cX3_laysNow 80 = .ok (.iload_n 3, 1) := by decide +kernel
theorem dX3_laysNow_81 : decode cX3_laysNow 81 = .ok (.laload, 1) := by decide +kernel
theorem dX3_laysNow_82 : decode cX3_laysNow 82 = .ok (.lcmp, 1) := by decide +kernel
theorem dX3_laysNow_83 : decode cX3_laysNow 83 = .ok (.ifCond .gt 6, 3) := by decide +kernel
theorem dX3_laysNow_86 : decode cX3_laysNow 86 = .ok (.goto 19, 3) := by decide +kernel
theorem dX3_laysNow_89 : decode cX3_laysNow 89 = .ok (.aload_n 0, 1) := by decide +kernel
theorem dX3_laysNow_90 : decode cX3_laysNow 90 = .ok (.getfield 55, 3) := by decide +kernel
theorem dX3_laysNow_93 : decode cX3_laysNow 93 = .ok (.iload_n 3, 1) := by decide +kernel
theorem dX3_laysNow_94 : decode cX3_laysNow 94 = .ok (.iload 4, 2) := by decide +kernel
theorem dX3_laysNow_96 : decode cX3_laysNow 96 = .ok (.iastore, 1) := by decide +kernel
theorem dX3_laysNow_97 : decode cX3_laysNow 97 = .ok (.aload_n 0, 1) := by decide +kernel
theorem dX3_laysNow_98 : decode cX3_laysNow 98 = .ok (.getfield 49, 3) := by decide +kernel
theorem dX3_laysNow_101 : decode cX3_laysNow 101 = .ok (.iload_n 3, 1) := by decide +kernel
theorem dX3_laysNow_102 : decode cX3_laysNow 102 = .ok (.lload 5, 2) := by decide +kernel
theorem dX3_laysNow_104 : decode cX3_laysNow 104 = .ok (.lastore, 1) := by decide +kernel
theorem dX3_laysNow_105 : decode cX3_laysNow 105 = .ok (.iinc 4 1, 3) := by decide +kernel
theorem dX3_laysNow_108 : decode cX3_laysNow 108 = .ok (.goto (-91), 3) := by decide +kernel
theorem dX3_laysNow_111 : decode cX3_laysNow 111 = .ok (.return_, 1) := by decide +kernel
set_option maxRecDepth 20000 in
theorem ggX3_laysTree_X3_laysNow : GoodIn wsX3_laysTree wsX3_laysNow := goodIn_r _ [11, 12, 13, 14, 6, 15, 16, 17, 10, 18, 19, 20, 21, 22, 23, 24, 25, 26, 27, 28, 29, 30, 31, 32, 33, 34, 35, 36, 37, 38, 39, 40, 41, 42, 43, 44, 45, 46, 47, 48, 49, 50, 51, 52, 53, 54, 55, 56, 57, 58, 59, 60, 61, 62, 63, 64, 65, 66, 67, 71, 72, 73, 74, 75, 76, 77, 78, 79, 80, 81, 82, 83, 84, 85, 86, 87, 88, 89, 90] (by decide +kernel) (by decide +kernel)
set_option maxRecDepth 20000 in
theorem gX3_laysTree_X3_laysNow : GoodIn wsX3_laysTree (wsV RX3 191 RX3 yX3_laysNow wsX3_laysNow) := goodIn_app (goodIn_of _ (by decide +kernel)) ggX3_laysTree_X3_laysNow
set_option maxRecDepth 20000 in
theorem ggX3_laysTree_X3_down : GoodIn wsX3_laysTree wsX3_down := goodIn_r _ [70] (by decide +kernel) (by decide +kernel)
set_option maxRecDepth 20000 in
theorem gX3_laysTree_X3_down : GoodIn wsX3_laysTree (va_wsS RX3 195 yX3_down wsX3_down) := goodIn_app (goodIn_of _ (by decide +kernel)) ggX3_laysTree_X3_down
theorem dX3_laysTree_0 : decode cX3_laysTree 0 = .ok (.iload_n 1, 1) := by decide +kernel
theorem dX3_laysTree_1 : decode cX3_laysTree 1 = .ok (.iconst (-1), 1) := by decide +kernel
theorem dX3_laysTree_2 : decode cX3_laysTree 2 = .ok (.if_icmp .ne 10, 3) := by decide +kernel
theorem dX3_laysTree_5 : decode cX3_laysTree 5 = .ok (.aload_n 0, 1) := by decide +kernel
theorem dX3_laysTree_6 : decode cX3_laysTree 6 = .ok (.getfield 141, 3) := by decide +kernel
theorem dX3_laysTree_9 : decode cX3_laysTree 9 = .ok (.goto 4, 3) := by decide +kernel
theorem dX3_laysTree_12 : decode cX3_laysTree 12 = .ok (.iload_n 1, 1) := by decide +kernel
theorem dX3_laysTree_13 : decode cX3_laysTree 13 = .ok (.istore_n 2, 1) := by decide +kernel
theorem dX3_laysTree_14 : decode cX3_laysTree 14 = .ok (.iload_n 2, 1) := by decide +kernel
theorem dX3_laysTree_15 : decode cX3_laysTree 15 = .ok (.ifCond .lt 171, 3) := by decide +kernel
theorem dX3_laysTree_18 : decode cX3_laysTree 18 = .ok (.iconst 0, 1) := by decide +kernel
theorem dX3_laysTree_19 : decode cX3_laysTree 19 = .ok (.istore_n 3, 1) := by decide +kernel
theorem dX3_laysTree_20 : decode cX3_laysTree 20 = .ok (.iload_n 3, 1) := by decide +kernel
theorem dX3_laysTree_21 : decode cX3_laysTree 21 = .ok (.iload_n 2, 1) := by decide +kernel
theorem dX3_laysTree_22 : decode cX3_laysTree 22 = .ok (.if_icmp .gt 158, 3) := by decide +kernel
theorem dX3_laysTree_25 : decode cX3_laysTree 25 = .ok (.bipush 21, 2) := by decide +kernel
theorem dX3_laysTree_27 : decode cX3_laysTree 27 = .ok (.iload_n 2, 1) := by decide +kernel
theorem dX3_laysTree_28 : decode cX3_laysTree 28 = .ok (.imul, 1) := by decide +kernel
theorem dX3_laysTree_29 : decode cX3_laysTree 29 = .ok (.iload_n 3, 1) := by decide +kernel
theorem dX3_laysTree_30 : decode cX3_laysTree 30 = .ok (.iadd, 1) := by decide +kernel
theorem dX3_laysTree_31 : decode cX3_laysTree 31 = .ok (.istore 4, 2) := by decide +kernel
theorem dX3_laysTree_33 : decode cX3_laysTree 33 = .ok (.aload_n 0, 1) := by decide +kernel
theorem dX3_laysTree_34 : decode cX3_laysTree 34 = .ok (.iload_n 2, 1) := by decide +kernel
theorem dX3_laysTree_35 : decode cX3_laysTree 35 = .ok (.iload_n 3, 1) := by decide +kernel
theorem dX3_laysTree_36 : decode cX3_laysTree 36 = .ok (.invokevirtual 191, 3) := by decide +kernel
theorem dX3_laysTree_39 : decode cX3_laysTree 39 = .ok (.iload_n 2, 1) := by decide +kernel
theorem dX3_laysTree_40 : decode cX3_laysTree 40 = .ok (.iload_n 1, 1) := by decide +kernel
theorem dX3_laysTree_41 : decode cX3_laysTree 41 = .ok (.iconst (-1), 1) := by decide +kernel
theorem dX3_laysTree_42 : decode cX3_laysTree 42 = .ok (.if_icmp .ne 10, 3) := by decide +kernel
theorem dX3_laysTree_45 : decode cX3_laysTree 45 = .ok (.aload_n 0, 1) := by decide +kernel
theorem dX3_laysTree_46 : decode cX3_laysTree 46 = .ok (.getfield 141, 3) := by decide +kernel
theorem dX3_laysTree_49 : decode cX3_laysTree 49 = .ok (.goto 4, 3) := by decide +kernel
theorem dX3_laysTree_52 : decode cX3_laysTree 52 = .ok (.iload_n 1, 1) := by decide +kernel
theorem dX3_laysTree_53 : decode cX3_laysTree 53 = .ok (.if_icmp .ne 7, 3) := by decide +kernel
theorem dX3_laysTree_56 : decode cX3_laysTree 56 = .ok (.iconst 1, 1) := by decide +kernel
theorem dX3_laysTree_57 : decode cX3_laysTree 57 = .ok (.goto 4, 3) := by decide +kernel
theorem dX3_laysTree_60 : decode cX3_laysTree 60 = .ok (.iconst 0, 1) := by decide +kernel
theorem dX3_laysTree_61 : decode cX3_laysTree 61 = .ok (.istore 5, 2) := by decide +kernel
theorem dX3_laysTree_63 : decode cX3_laysTree 63 = .ok (.aload_n 0, 1) := by decide +kernel
theorem dX3_laysTree_64 : decode cX3_laysTree 64 = .ok (.getfield 52, 3) := by decide +kernel
theorem dX3_laysTree_67 : decode cX3_laysTree 67 = .ok (.iload 4, 2) := by decide +kernel
theorem dX3_laysTree_69 : decode cX3_laysTree 69 = .ok (.iload 5, 2) := by decide +kernel
theorem dX3_laysTree_71 : decode cX3_laysTree 71 = .ok (.ifCond .eq 7, 3) := by decide +kernel
theorem dX3_laysTree_74 : decode cX3_laysTree 74 = .ok (.lconst 0, 1) := by decide +kernel
theorem dX3_laysTree_75 : decode cX3_laysTree 75 = .ok (.goto 36, 3) := by decide +kernel
theorem dX3_laysTree_78 : decode cX3_laysTree 78 = .ok (.aload_n 0, 1) := by decide +kernel
theorem dX3_laysTree_79 : decode cX3_laysTree 79 = .ok (.getfield 46, 3) := by decide +kernel
theorem dX3_laysTree_82 : decode cX3_laysTree 82 = .ok (.iload 4, 2) := by decide +kernel
theorem dX3_laysTree_84 : decode cX3_laysTree 84 = .ok (.bipush 21, 2) := by decide +kernel
theorem dX3_laysTree_86 : decode cX3_laysTree 86 = .ok (.iadd, 1) := by decide +kernel
theorem dX3_laysTree_87 : decode cX3_laysTree 87 = .ok (.laload, 1) := by decide +kernel
theorem dX3_laysTree_88 : decode cX3_laysTree 88 = .ok (.aload_n 0, 1) := by decide +kernel
theorem dX3_laysTree_89 : decode cX3_laysTree 89 = .ok (.getfield 46, 3) := by decide +kernel
theorem dX3_laysTree_92 : decode cX3_laysTree 92 = .ok (.iload 4, 2) := by decide +kernel
theorem dX3_laysTree_94 : decode cX3_laysTree 94 = .ok (.bipush 22, 2) := by decide +kernel
theorem dX3_laysTree_96 : decode cX3_laysTree 96 = .ok (.iadd, 1) := by decide +kernel
theorem dX3_laysTree_97 : decode cX3_laysTree 97 = .ok (.laload, 1) := by decide +kernel
theorem dX3_laysTree_98 : decode cX3_laysTree 98 = .ok (.ladd, 1) := by decide +kernel
theorem dX3_laysTree_99 : decode cX3_laysTree 99 = .ok (.ldc2_w 91, 3) := by decide +kernel
theorem dX3_laysTree_102 : decode cX3_laysTree 102 = .ok (.invokestatic 195, 3) := by decide +kernel
theorem dX3_laysTree_105 : decode cX3_laysTree 105 = .ok (.aload_n 0, 1) := by decide +kernel
theorem dX3_laysTree_106 : decode cX3_laysTree 106 = .ok (.getfield 144, 3) := by decide +kernel
theorem dX3_laysTree_109 : decode cX3_laysTree 109 = .ok (.i2l, 1) := by decide +kernel
theorem dX3_laysTree_110 : decode cX3_laysTree 110 = .ok (.lsub, 1) := by decide +kernel
theorem dX3_laysTree_111 : decode cX3_laysTree 111 = .ok (.lastore, 1) := by decide +kernel
theorem dX3_laysTree_112 : decode cX3_laysTree 112 = .ok (.aload_n 0, 1) := by decide +kernel
theorem dX3_laysTree_113 : decode cX3_laysTree 113 = .ok (.getfield 46, 3) := by decide +kernel
theorem dX3_laysTree_116 : decode cX3_laysTree 116 = .ok (.iload 4, 2) := by decide +kernel
theorem dX3_laysTree_118 : decode cX3_laysTree 118 = .ok (.iload 5, 2) := by decide +kernel
theorem dX3_laysTree_120 : decode cX3_laysTree 120 = .ok (.ifCond .eq 13, 3) := by decide +kernel
theorem dX3_laysTree_123 : decode cX3_laysTree 123 = .ok (.aload_n 0, 1) := by decide +kernel
theorem dX3_laysTree_124 : decode cX3_laysTree 124 = .ok (.getfield 49, 3) := by decide +kernel
theorem dX3_laysTree_127 : decode cX3_laysTree 127 = .ok (.iload 4, 2) := by decide +kernel
theorem dX3_laysTree_129 : decode cX3_laysTree 129 = .ok (.laload, 1) := by decide +kernel
theorem dX3_laysTree_130 : decode cX3_laysTree 130 = .ok (.goto 43, 3) := by decide +kernel
theorem dX3_laysTree_133 : decode cX3_laysTree 133 = .ok (.iload_n 1, 1) := by decide +kernel
theorem dX3_laysTree_134 : decode cX3_laysTree 134 = .ok (.iconst (-1), 1) := by decide +kernel
theorem dX3_laysTree_135 : decode cX3_laysTree 135 = .ok (.if_icmp .ne 31, 3) := by decide +kernel
theorem dX3_laysTree_138 : decode cX3_laysTree 138 = .ok (.aload_n 0, 1) := by decide +kernel
theorem dX3_laysTree_139 : decode cX3_laysTree 139 = .ok (.getfield 49, 3) := by decide +kernel
theorem dX3_laysTree_142 : decode cX3_laysTree 142 = .ok (.iload 4, 2) := by decide +kernel
theorem dX3_laysTree_144 : decode cX3_laysTree 144 = .ok (.laload, 1) := by decide +kernel
theorem dX3_laysTree_145 : decode cX3_laysTree 145 = .ok (.aload_n 0, 1) := by decide +kernel
theorem dX3_laysTree_146 : decode cX3_laysTree 146 = .ok (.getfield 52, 3) := by decide +kernel
theorem dX3_laysTree_149 : decode cX3_laysTree 149 = .ok (.iload 4, 2) := by decide +kernel
theorem dX3_laysTree_151 : decode cX3_laysTree 151 = .ok (.laload, 1) := by decide +kernel
theorem dX3_laysTree_152 : decode cX3_laysTree 152 = .ok (.lcmp, 1) := by decide +kernel
theorem dX3_laysTree_153 : decode cX3_laysTree 153 = .ok (.ifCond .le 13, 3) := by decide +kernel
theorem dX3_laysTree_156 : decode cX3_laysTree 156 = .ok (.aload_n 0, 1) := by decide +kernel
theorem dX3_laysTree_157 : decode cX3_laysTree 157 = .ok (.getfield 49, 3) := by decide +kernel
theorem dX3_laysTree_160 : decode cX3_laysTree 160 = .ok (.iload 4, 2) := by decide +kernel
theorem dX3_laysTree_162 : decode cX3_laysTree 162 = .ok (.laload, 1) := by decide +kernel
theorem dX3_laysTree_163 : decode cX3_laysTree 163 = .ok (.goto 10, 3) := by decide +kernel
theorem dX3_laysTree_166 : decode cX3_laysTree 166 = .ok (.aload_n 0, 1) := by decide +kernel
theorem dX3_laysTree_167 : decode cX3_laysTree 167 = .ok (.getfield 52, 3) := by decide +kernel
theorem dX3_laysTree_170 : decode cX3_laysTree 170 = .ok (.iload 4, 2) := by decide +kernel
theorem dX3_laysTree_172 : decode cX3_laysTree 172 = .ok (.laload, 1) := by decide +kernel
theorem dX3_laysTree_173 : decode cX3_laysTree 173 = .ok (.lastore, 1) := by decide +kernel
theorem dX3_laysTree_174 : decode cX3_laysTree 174 = .ok (.iinc 3 1, 3) := by decide +kernel
theorem dX3_laysTree_177 : decode cX3_laysTree 177 = .ok (.goto (-157), 3) := by decide +kernel
theorem dX3_laysTree_180 : decode cX3_laysTree 180 = .ok (.iinc 2 (-1), 3) := by decide +kernel
theorem dX3_laysTree_183 : decode cX3_laysTree 183 = .ok (.goto (-169), 3) := by decide +kernel
theorem dX3_laysTree_186 : decode cX3_laysTree 186 = .ok (.return_, 1) := by decide +kernel
theorem dX3_delivers_0 : decode cX3_delivers 0 = .ok (.iload_n 1, 1) := by decide +kernel
theorem dX3_delivers_1 : decode cX3_delivers 1 = .ok (.aload_n 0, 1) := by decide +kernel
theorem dX3_delivers_2 : decode cX3_delivers 2 = .ok (.getfield 141, 3) := by decide +kernel
theorem dX3_delivers_5 : decode cX3_delivers 5 = .ok (.if_icmp .eq 29, 3) := by decide +kernel
theorem dX3_delivers_8 : decode cX3_delivers 8 = .ok (.aload_n 0, 1) := by decide +kernel
theorem dX3_delivers_9 : decode cX3_delivers 9 = .ok (.getfield 49, 3) := by decide +kernel
theorem dX3_delivers_12 : decode cX3_delivers 12 = .ok (.bipush 21, 2) := by decide +kernel
theorem dX3_delivers_14 : decode cX3_delivers 14 = .ok (.iload_n 1, 1) := by decide +kernel
theorem dX3_delivers_15 : decode cX3_delivers 15 = .ok (.imul, 1) := by decide +kernel
theorem dX3_delivers_16 : decode cX3_delivers 16 = .ok (.iload_n 2, 1) := by decide +kernel
theorem dX3_delivers_17 : decode cX3_delivers 17 = .ok (.iadd, 1) := by decide +kernel
theorem dX3_delivers_18 : decode cX3_delivers 18 = .ok (.laload, 1) := by decide +kernel
theorem dX3_delivers_19 : decode cX3_delivers 19 = .ok (.aload_n 0, 1) := by decide +kernel
theorem dX3_delivers_20 : decode cX3_delivers 20 = .ok (.getfield 52, 3) := by decide +kernel
theorem dX3_delivers_23 : decode cX3_delivers 23 = .ok (.bipush 21, 2) := by decide +kernel
theorem dX3_delivers_25 : decode cX3_delivers 25 = .ok (.iload_n 1, 1) := by decide +kernel
theorem dX3_delivers_26 : decode cX3_delivers 26 = .ok (.imul, 1) := by decide +kernel
theorem dX3_delivers_27 : decode cX3_delivers 27 = .ok (.iload_n 2, 1) := by decide +kernel
theorem dX3_delivers_28 : decode cX3_delivers 28 = .ok (.iadd, 1) := by decide +kernel
theorem dX3_delivers_29 : decode cX3_delivers 29 = .ok (.laload, 1) := by decide +kernel
theorem dX3_delivers_30 : decode cX3_delivers 30 = .ok (.lcmp, 1) := by decide +kernel
theorem dX3_delivers_31 : decode cX3_delivers 31 = .ok (.ifCond .lt 7, 3) := by decide +kernel
theorem dX3_delivers_34 : decode cX3_delivers 34 = .ok (.iconst 1, 1) := by decide +kernel
theorem dX3_delivers_35 : decode cX3_delivers 35 = .ok (.goto 4, 3) := by decide +kernel
theorem dX3_delivers_38 : decode cX3_delivers 38 = .ok (.iconst 0, 1) := by decide +kernel
theorem dX3_delivers_39 : decode cX3_delivers 39 = .ok (.ireturn, 1) := by decide +kernel
set_option maxRecDepth 20000 in
theorem ggX3_value_X3_isNode : GoodIn wsX3_value wsX3_isNode := goodIn_r _ [7, 8, 9, 10, 6, 11, 92, 93, 94, 95, 96, 97, 98, 99, 100, 101, 102, 103, 104, 105, 106, 107, 108, 109, 110, 111] (by decide +kernel) (by decide +kernel)
set_option maxRecDepth 20000 in
theorem gX3_value_X3_isNode : GoodIn wsX3_value (wsV RX3 184 RX3 yX3_isNode wsX3_isNode) := goodIn_app (goodIn_of _ (by decide +kernel)) ggX3_value_X3_isNode
set_option maxRecDepth 20000 in
theorem ggX3_value_X3_isAny : GoodIn wsX3_value wsX3_isAny := goodIn_r _ [15, 16, 17, 18, 6, 19, 20, 21, 22, 23, 24, 25, 26, 27, 28, 29, 30, 31, 32, 33, 9, 10, 11, 34, 35, 36, 37, 38, 39, 40, 41, 42, 43, 44, 45, 46, 47, 48, 49, 50, 51, 52, 53, 54, 55, 56, 92, 93, 94, 95, 96, 97, 98, 99, 100, 101, 102, 103, 104, 105, 106, 107, 108, 109, 110, 111] (by decide +kernel) (by decide +kernel)
set_option maxRecDepth 20000 in
theorem gX3_value_X3_isAny : GoodIn wsX3_value (wsV RX3 155 RX3 yX3_isAny wsX3_isAny) := goodIn_app (goodIn_of _ (by decide +kernel)) ggX3_value_X3_isAny
set_option maxRecDepth 20000 in
theorem ggX3_value_X3_refuse : GoodIn wsX3_value wsX3_refuse := goodIn_r _ [60, 1, 92, 93, 94, 95, 96, 97, 98, 99, 100, 101, 102, 103, 104, 105, 106, 107, 108, 109, 110, 111] (by decide +kernel) (by decide +kernel)
set_option maxRecDepth 20000 in
theorem gX3_value_X3_refuse : GoodIn wsX3_value (wsV RX3 127 RX3 yX3_refuse wsX3_refuse) := goodIn_app (goodIn_of _ (by decide +kernel)) ggX3_value_X3_refuse
set_option maxRecDepth 20000 in
theorem ggX3_value_X3_laysTree : GoodIn wsX3_value wsX3_laysTree := goodIn_r _ [64, 8, 65, 2, 66, 67, 68, 69, 70, 71, 6, 72, 73, 20, 74, 21, 22, 23, 24, 25, 26, 27, 28, 29, 30, 31, 32, 33, 9, 10, 11, 34, 35, 36, 37, 38, 39, 40, 41, 42, 43, 44, 45, 46, 47, 48, 49, 50, 51, 52, 53, 54, 55, 56, 75, 76, 77, 78, 79, 80, 81, 82, 83, 84, 85, 86, 87, 88, 89, 90, 91, 92, 93, 94, 95, 96, 97, 98, 99, 100, 101, 102, 103, 104, 105, 106, 107, 108, 109, 110, 111] (by decide +kernel) (by decide +kernel)
set_option maxRecDepth 20000 in
theorem gX3_value_X3_laysTree : GoodIn wsX3_value (wsV RX3 199 RX3 yX3_laysTree wsX3_laysTree) := goodIn_app (goodIn_of _ (by decide +kernel)) ggX3_value_X3_laysTree
theorem dX3_value_0 : decode cX3_value 0 = .ok (.aload_n 0, 1) := by decide +kernel
theorem dX3_value_1 : decode cX3_value 1 = .ok (.iconst 0, 1) := by decide +kernel
theorem dX3_value_2 : decode cX3_value 2 = .ok (.putfield 61, 3) := by decide +kernel
theorem dX3_value_5 : decode cX3_value 5 = .ok (.aload_n 0, 1) := by decide +kernel
theorem dX3_value_6 : decode cX3_value 6 = .ok (.iload_n 1, 1) := by decide +kernel
theorem dX3_value_7 : decode cX3_value 7 = .ok (.iload_n 2, 1) := by decide +kernel
theorem dX3_value_8 : decode cX3_value 8 = .ok (.invokevirtual 184, 3) := by decide +kernel
theorem dX3_value_11 : decode cX3_value 11 = .ok (.ifCond .eq 10, 3) := by decide +kernel
theorem dX3_value_14 : decode cX3_value 14 = .ok (.aload_n 0, 1) := by decide +kernel
theorem dX3_value_15 : decode cX3_value 15 = .ok (.invokevirtual 155, 3) := by decide +kernel
theorem dX3_value_18 : decode cX3_value 18 = .ok (.ifCond .ne 9, 3) := by decide +kernel
theorem dX3_value_21 : decode cX3_value 21 = .ok (.aload_n 0, 1) := by decide +kernel
theorem dX3_value_22 : decode cX3_value 22 = .ok (.invokevirtual 127, 3) := by decide +kernel
theorem dX3_value_25 : decode cX3_value 25 = .ok (.i2l, 1) := by decide +kernel
theorem dX3_value_26 : decode cX3_value 26 = .ok (.lreturn, 1) := by decide +kernel
theorem dX3_value_27 : decode cX3_value 27 = .ok (.aload_n 0, 1) := by decide +kernel
theorem dX3_value_28 : decode cX3_value 28 = .ok (.iconst (-1), 1) := by decide +kernel
theorem dX3_value_29 : decode cX3_value 29 = .ok (.invokevirtual 199, 3) := by decide +kernel
theorem dX3_value_32 : decode cX3_value 32 = .ok (.aload_n 0, 1) := by decide +kernel
theorem dX3_value_33 : decode cX3_value 33 = .ok (.getfield 46, 3) := by decide +kernel
theorem dX3_value_36 : decode cX3_value 36 = .ok (.bipush 21, 2) := by decide +kernel
theorem dX3_value_38 : decode cX3_value 38 = .ok (.iload_n 1, 1) := by decide +kernel
theorem dX3_value_39 : decode cX3_value 39 = .ok (.imul, 1) := by decide +kernel
theorem dX3_value_40 : decode cX3_value 40 = .ok (.iload_n 2, 1) := by decide +kernel
theorem dX3_value_41 : decode cX3_value 41 = .ok (.iadd, 1) := by decide +kernel
theorem dX3_value_42 : decode cX3_value 42 = .ok (.laload, 1) := by decide +kernel
theorem dX3_value_43 : decode cX3_value 43 = .ok (.lreturn, 1) := by decide +kernel
set_option maxRecDepth 20000 in
theorem ggX3_act_X3_isNode : GoodIn wsX3_act wsX3_isNode := goodIn_r _ [7, 8, 9, 10, 6, 11, 92, 93, 94, 95, 96, 97, 98, 99, 100, 101, 102, 103, 104, 105, 106, 107, 108, 109, 110, 111] (by decide +kernel) (by decide +kernel)
set_option maxRecDepth 20000 in
theorem gX3_act_X3_isNode : GoodIn wsX3_act (wsV RX3 184 RX3 yX3_isNode wsX3_isNode) := goodIn_app (goodIn_of _ (by decide +kernel)) ggX3_act_X3_isNode
set_option maxRecDepth 20000 in
theorem ggX3_act_X3_isAny : GoodIn wsX3_act wsX3_isAny := goodIn_r _ [15, 16, 17, 18, 6, 19, 20, 21, 22, 23, 24, 25, 26, 27, 28, 29, 30, 31, 32, 33, 9, 10, 11, 34, 35, 36, 37, 38, 39, 40, 41, 42, 43, 44, 45, 46, 47, 48, 49, 50, 51, 52, 53, 54, 55, 56, 92, 93, 94, 95, 96, 97, 98, 99, 100, 101, 102, 103, 104, 105, 106, 107, 108, 109, 110, 111] (by decide +kernel) (by decide +kernel)
set_option maxRecDepth 20000 in
theorem gX3_act_X3_isAny : GoodIn wsX3_act (wsV RX3 155 RX3 yX3_isAny wsX3_isAny) := goodIn_app (goodIn_of _ (by decide +kernel)) ggX3_act_X3_isAny
set_option maxRecDepth 20000 in
theorem ggX3_act_X3_laysTree : GoodIn wsX3_act wsX3_laysTree := goodIn_r _ [60, 8, 61, 62, 63, 64, 65, 66, 67, 68, 6, 69, 2, 20, 70, 21, 22, 23, 24, 25, 26, 27, 28, 29, 30, 31, 32, 33, 9, 10, 11, 34, 35, 36, 37, 38, 39, 40, 41, 42, 43, 44, 45, 46, 47, 48, 49, 50, 51, 52, 53, 54, 55, 56, 71, 72, 73, 74, 75, 76, 77, 78, 79, 80, 81, 82, 83, 84, 85, 86, 87, 92, 93, 94, 95, 96, 97, 98, 99, 100, 101, 102, 103, 104, 105, 106, 107, 108, 109, 110, 111] (by decide +kernel) (by decide +kernel)
set_option maxRecDepth 20000 in
theorem gX3_act_X3_laysTree : GoodIn wsX3_act (wsV RX3 199 RX3 yX3_laysTree wsX3_laysTree) := goodIn_app (goodIn_of _ (by decide +kernel)) ggX3_act_X3_laysTree
set_option maxRecDepth 20000 in
theorem ggX3_act_X3_delivers : GoodIn wsX3_act wsX3_delivers := goodIn_r _ [91, 8, 65, 61, 92, 93, 94, 95, 96, 97, 98, 99, 100, 101, 102, 103, 104, 105, 106, 107, 108, 109, 110, 111] (by decide +kernel) (by decide +kernel)
set_option maxRecDepth 20000 in
theorem gX3_act_X3_delivers : GoodIn wsX3_act (wsV RX3 203 RX3 yX3_delivers wsX3_delivers) := goodIn_app (goodIn_of _ (by decide +kernel)) ggX3_act_X3_delivers
theorem dX3_act_0 : decode cX3_act 0 = .ok (.aload_n 0, 1) := by decide +kernel
theorem dX3_act_1 : decode cX3_act 1 = .ok (.iconst 0, 1) := by decide +kernel
theorem dX3_act_2 : decode cX3_act 2 = .ok (.putfield 61, 3) := by decide +kernel
theorem dX3_act_5 : decode cX3_act 5 = .ok (.aload_n 0, 1) := by decide +kernel
theorem dX3_act_6 : decode cX3_act 6 = .ok (.iload_n 1, 1) := by decide +kernel
theorem dX3_act_7 : decode cX3_act 7 = .ok (.iload_n 2, 1) := by decide +kernel
theorem dX3_act_8 : decode cX3_act 8 = .ok (.invokevirtual 184, 3) := by decide +kernel
theorem dX3_act_11 : decode cX3_act 11 = .ok (.ifCond .eq 10, 3) := by decide +kernel
theorem dX3_act_14 : decode cX3_act 14 = .ok (.aload_n 0, 1) := by decide +kernel
theorem dX3_act_15 : decode cX3_act 15 = .ok (.invokevirtual 155, 3) := by decide +kernel
theorem dX3_act_18 : decode cX3_act 18 = .ok (.ifCond .ne 5, 3) := by decide +kernel
theorem dX3_act_21 : decode cX3_act 21 = .ok (.iconst (-1), 1) := by decide +kernel
theorem dX3_act_22 : decode cX3_act 22 = .ok (.ireturn, 1) := by decide +kernel
theorem dX3_act_23 : decode cX3_act 23 = .ok (.aload_n 0, 1) := by decide +kernel
theorem dX3_act_24 : decode cX3_act 24 = .ok (.iconst (-1), 1) := by decide +kernel
theorem dX3_act_25 : decode cX3_act 25 = .ok (.invokevirtual 199, 3) := by decide +kernel
theorem dX3_act_28 : decode cX3_act 28 = .ok (.aload_n 0, 1) := by decide +kernel
theorem dX3_act_29 : decode cX3_act 29 = .ok (.iload_n 1, 1) := by decide +kernel
theorem dX3_act_30 : decode cX3_act 30 = .ok (.iload_n 2, 1) := by decide +kernel
theorem dX3_act_31 : decode cX3_act 31 = .ok (.invokevirtual 203, 3) := by decide +kernel
theorem dX3_act_34 : decode cX3_act 34 = .ok (.ifCond .eq 17, 3) := by decide +kernel
theorem dX3_act_37 : decode cX3_act 37 = .ok (.aload_n 0, 1) := by decide +kernel
theorem dX3_act_38 : decode cX3_act 38 = .ok (.getfield 55, 3) := by decide +kernel
theorem dX3_act_41 : decode cX3_act 41 = .ok (.bipush 21, 2) := by decide +kernel
theorem dX3_act_43 : decode cX3_act 43 = .ok (.iload_n 1, 1) := by decide +kernel
theorem dX3_act_44 : decode cX3_act 44 = .ok (.imul, 1) := by decide +kernel
theorem dX3_act_45 : decode cX3_act 45 = .ok (.iload_n 2, 1) := by decide +kernel
theorem dX3_act_46 : decode cX3_act 46 = .ok (.iadd, 1) := by decide +kernel
theorem dX3_act_47 : decode cX3_act 47 = .ok (.iaload, 1) := by decide +kernel
theorem dX3_act_48 : decode cX3_act 48 = .ok (.goto 5, 3) := by decide +kernel
theorem dX3_act_51 : decode cX3_act 51 = .ok (.bipush (-2), 2) := by decide +kernel
theorem dX3_act_53 : decode cX3_act 53 = .ok (.ireturn, 1) := by decide +kernel
set_option maxRecDepth 20000 in
theorem ggX3_path_X3_isIn : GoodIn wsX3_path wsX3_isIn := goodIn_r _ [7] (by decide +kernel) (by decide +kernel)
set_option maxRecDepth 20000 in
theorem gX3_path_X3_isIn : GoodIn wsX3_path (va_wsS RX3 67 yX3_isIn wsX3_isIn) := goodIn_app (goodIn_of _ (by decide +kernel)) ggX3_path_X3_isIn
set_option maxRecDepth 20000 in
theorem ggX3_path_X3_isAny : GoodIn wsX3_path wsX3_isAny := goodIn_r _ [11, 12, 13, 14, 6, 15, 16, 17, 18, 19, 20, 21, 22, 23, 24, 25, 26, 27, 28, 29, 4, 5, 7, 30, 31, 32, 33, 34, 35, 36, 37, 38, 39, 40, 41, 42, 43, 44, 45, 46, 47, 48, 49, 50, 51, 52, 88, 89, 90, 91, 92, 93, 94, 95, 96, 97, 98, 99, 100, 101, 102, 103, 104, 105, 106, 107] (by decide +kernel) (by decide +kernel)
set_option maxRecDepth 20000 in
theorem gX3_path_X3_isAny : GoodIn wsX3_path (wsV RX3 155 RX3 yX3_isAny wsX3_isAny) := goodIn_app (goodIn_of _ (by decide +kernel)) ggX3_path_X3_isAny
set_option maxRecDepth 20000 in
theorem ggX3_path_X3_laysTree : GoodIn wsX3_path wsX3_laysTree := goodIn_r _ [56, 2, 57, 58, 59, 60, 61, 62, 63, 64, 6, 65, 3, 16, 66, 17, 18, 19, 20, 21, 22, 23, 24, 25, 26, 27, 28, 29, 4, 5, 7, 30, 31, 32, 33, 34, 35, 36, 37, 38, 39, 40, 41, 42, 43, 44, 45, 46, 47, 48, 49, 50, 51, 52, 67, 68, 69, 70, 71, 72, 73, 74, 75, 76, 77, 78, 79, 80, 81, 82, 83, 88, 89, 90, 91, 92, 93, 94, 95, 96, 97, 98, 99, 100, 101, 102, 103, 104, 105, 106, 107] (by decide +kernel) (by decide +kernel)
set_option maxRecDepth 20000 in
theorem gX3_path_X3_laysTree : GoodIn wsX3_path (wsV RX3 199 RX3 yX3_laysTree wsX3_laysTree) := goodIn_app (goodIn_of _ (by decide +kernel)) ggX3_path_X3_laysTree
set_option maxRecDepth 20000 in
theorem ggX3_path_X3_delivers : GoodIn wsX3_path wsX3_delivers := goodIn_r _ [87, 2, 61, 57, 88, 89, 90, 91, 92, 93, 94, 95, 96, 97, 98, 99, 100, 101, 102, 103, 104, 105, 106, 107] (by decide +kernel) (by decide +kernel)
set_option maxRecDepth 20000 in
theorem gX3_path_X3_delivers : GoodIn wsX3_path (wsV RX3 203 RX3 yX3_delivers wsX3_delivers) := goodIn_app (goodIn_of _ (by decide +kernel)) ggX3_path_X3_delivers
theorem dX3_path_0 : decode cX3_path 0 = .ok (.aload_n 0, 1) := by decide +kernel
theorem dX3_path_1 : decode cX3_path 1 = .ok (.iconst 0, 1) := by decide +kernel
theorem dX3_path_2 : decode cX3_path 2 = .ok (.putfield 61, 3) := by decide +kernel
theorem dX3_path_5 : decode cX3_path 5 = .ok (.iload_n 1, 1) := by decide +kernel
theorem dX3_path_6 : decode cX3_path 6 = .ok (.i2l, 1) := by decide +kernel
theorem dX3_path_7 : decode cX3_path 7 = .ok (.lconst 0, 1) := by decide +kernel
theorem dX3_path_8 : decode cX3_path 8 = .ok (.iconst 1, 1) := by decide +kernel
theorem dX3_path_9 : decode cX3_path 9 = .ok (.aload_n 0, 1) := by decide +kernel
theorem dX3_path_10 : decode cX3_path 10 = .ok (.getfield 141, 3) := by decide +kernel
theorem dX3_path_13 : decode cX3_path 13 = .ok (.ishl, 1) := by decide +kernel
theorem dX3_path_14 : decode cX3_path 14 = .ok (.iconst 1, 1) := by decide +kernel
theorem dX3_path_15 : decode cX3_path 15 = .ok (.isub, 1) := by decide +kernel
theorem dX3_path_16 : decode cX3_path 16 = .ok (.i2l, 1) := by decide +kernel
theorem dX3_path_17 : decode cX3_path 17 = .ok (.invokestatic 67, 3) := by decide +kernel
theorem dX3_path_20 : decode cX3_path 20 = .ok (.ifCond .eq 10, 3) := by decide +kernel
theorem dX3_path_23 : decode cX3_path 23 = .ok (.aload_n 0, 1) := by decide +kernel
theorem dX3_path_24 : decode cX3_path 24 = .ok (.invokevirtual 155, 3) := by decide +kernel
theorem dX3_path_27 : decode cX3_path 27 = .ok (.ifCond .ne 5, 3) := by decide +kernel
theorem dX3_path_30 : decode cX3_path 30 = .ok (.iconst (-1), 1) := by decide +kernel
theorem dX3_path_31 : decode cX3_path 31 = .ok (.ireturn, 1) := by decide +kernel
theorem dX3_path_32 : decode cX3_path 32 = .ok (.aload_n 0, 1) := by decide +kernel
theorem dX3_path_33 : decode cX3_path 33 = .ok (.iconst (-1), 1) := by decide +kernel
theorem dX3_path_34 : decode cX3_path 34 = .ok (.invokevirtual 199, 3) := by decide +kernel
theorem dX3_path_37 : decode cX3_path 37 = .ok (.iconst 0, 1) := by decide +kernel
theorem dX3_path_38 : decode cX3_path 38 = .ok (.istore_n 3, 1) := by decide +kernel
theorem dX3_path_39 : decode cX3_path 39 = .ok (.iconst 0, 1) := by decide +kernel
theorem dX3_path_40 : decode cX3_path 40 = .ok (.istore 4, 2) := by decide +kernel
theorem dX3_path_42 : decode cX3_path 42 = .ok (.aload_n 0, 1) := by decide +kernel
theorem dX3_path_43 : decode cX3_path 43 = .ok (.iload_n 3, 1) := by decide +kernel
theorem dX3_path_44 : decode cX3_path 44 = .ok (.iload 4, 2) := by decide +kernel
theorem dX3_path_46 : decode cX3_path 46 = .ok (.invokevirtual 203, 3) := by decide +kernel
theorem dX3_path_49 : decode cX3_path 49 = .ok (.ifCond .ne 19, 3) := by decide +kernel
theorem dX3_path_52 : decode cX3_path 52 = .ok (.iload 4, 2) := by decide +kernel
theorem dX3_path_54 : decode cX3_path 54 = .ok (.iload_n 1, 1) := by decide +kernel
theorem dX3_path_55 : decode cX3_path 55 = .ok (.iload_n 3, 1) := by decide +kernel
theorem dX3_path_56 : decode cX3_path 56 = .ok (.ishr, 1) := by decide +kernel
theorem dX3_path_57 : decode cX3_path 57 = .ok (.iconst 1, 1) := by decide +kernel
theorem dX3_path_58 : decode cX3_path 58 = .ok (.iand, 1) := by decide +kernel
theorem dX3_path_59 : decode cX3_path 59 = .ok (.iadd, 1) := by decide +kernel
theorem dX3_path_60 : decode cX3_path 60 = .ok (.istore 4, 2) := by decide +kernel
theorem dX3_path_62 : decode cX3_path 62 = .ok (.iinc 3 1, 3) := by decide +kernel
theorem dX3_path_65 : decode cX3_path 65 = .ok (.goto (-23), 3) := by decide +kernel
theorem dX3_path_68 : decode cX3_path 68 = .ok (.iload_n 2, 1) := by decide +kernel
theorem dX3_path_69 : decode cX3_path 69 = .ok (.ifCond .eq 18, 3) := by decide +kernel
theorem dX3_path_72 : decode cX3_path 72 = .ok (.aload_n 0, 1) := by decide +kernel
theorem dX3_path_73 : decode cX3_path 73 = .ok (.getfield 55, 3) := by decide +kernel
theorem dX3_path_76 : decode cX3_path 76 = .ok (.bipush 21, 2) := by decide +kernel
theorem dX3_path_78 : decode cX3_path 78 = .ok (.iload_n 3, 1) := by decide +kernel
theorem dX3_path_79 : decode cX3_path 79 = .ok (.imul, 1) := by decide +kernel
theorem dX3_path_80 : decode cX3_path 80 = .ok (.iload 4, 2) := by decide +kernel
theorem dX3_path_82 : decode cX3_path 82 = .ok (.iadd, 1) := by decide +kernel
theorem dX3_path_83 : decode cX3_path 83 = .ok (.iaload, 1) := by decide +kernel
theorem dX3_path_84 : decode cX3_path 84 = .ok (.goto 4, 3) := by decide +kernel
theorem dX3_path_87 : decode cX3_path 87 = .ok (.iload_n 3, 1) := by decide +kernel
theorem dX3_path_88 : decode cX3_path 88 = .ok (.ireturn, 1) := by decide +kernel
set_option maxRecDepth 20000 in
theorem ggX3_often_X3_isIn : GoodIn wsX3_often wsX3_isIn := goodIn_r _ [7] (by decide +kernel) (by decide +kernel)
set_option maxRecDepth 20000 in
theorem gX3_often_X3_isIn : GoodIn wsX3_often (va_wsS RX3 67 yX3_isIn wsX3_isIn) := goodIn_app (goodIn_of _ (by decide +kernel)) ggX3_often_X3_isIn
set_option maxRecDepth 20000 in
theorem ggX3_often_X3_isAny : GoodIn wsX3_often wsX3_isAny := goodIn_r _ [11, 12, 13, 14, 6, 15, 16, 17, 18, 19, 20, 21, 22, 23, 24, 25, 26, 27, 28, 29, 4, 5, 7, 30, 31, 32, 33, 34, 35, 36, 37, 38, 39, 40, 41, 42, 43, 44, 45, 46, 47, 48, 49, 50, 51, 52, 89, 90, 91, 92, 93, 94, 95, 96, 97, 98, 99, 100, 101, 102, 103, 104, 105, 106, 107, 108] (by decide +kernel) (by decide +kernel)
set_option maxRecDepth 20000 in
theorem gX3_often_X3_isAny : GoodIn wsX3_often (wsV RX3 155 RX3 yX3_isAny wsX3_isAny) := goodIn_app (goodIn_of _ (by decide +kernel)) ggX3_often_X3_isAny
set_option maxRecDepth 20000 in
theorem ggX3_often_X3_laysTree : GoodIn wsX3_often wsX3_laysTree := goodIn_r _ [56, 2, 57, 58, 59, 60, 61, 62, 63, 64, 6, 65, 66, 16, 67, 17, 18, 19, 20, 21, 22, 23, 24, 25, 26, 27, 28, 29, 4, 5, 7, 30, 31, 32, 33, 34, 35, 36, 37, 38, 39, 40, 41, 42, 43, 44, 45, 46, 47, 48, 49, 50, 51, 52, 68, 69, 70, 71, 72, 73, 74, 75, 76, 77, 78, 79, 80, 81, 82, 83, 84, 89, 90, 91, 92, 93, 94, 95, 96, 97, 98, 99, 100, 101, 102, 103, 104, 105, 106, 107, 108] (by decide +kernel) (by decide +kernel)
set_option maxRecDepth 20000 in
theorem gX3_often_X3_laysTree : GoodIn wsX3_often (wsV RX3 199 RX3 yX3_laysTree wsX3_laysTree) := goodIn_app (goodIn_of _ (by decide +kernel)) ggX3_often_X3_laysTree
set_option maxRecDepth 20000 in
theorem ggX3_often_X3_delivers : GoodIn wsX3_often wsX3_delivers := goodIn_r _ [88, 2, 61, 57, 89, 90, 91, 92, 93, 94, 95, 96, 97, 98, 99, 100, 101, 102, 103, 104, 105, 106, 107, 108] (by decide +kernel) (by decide +kernel)
set_option maxRecDepth 20000 in
theorem gX3_often_X3_delivers : GoodIn wsX3_often (wsV RX3 203 RX3 yX3_delivers wsX3_delivers) := goodIn_app (goodIn_of _ (by decide +kernel)) ggX3_often_X3_delivers
theorem dX3_often_0 : decode cX3_often 0 = .ok (.aload_n 0, 1) := by decide +kernel
theorem dX3_often_1 : decode cX3_often 1 = .ok (.iconst 0, 1) := by decide +kernel
theorem dX3_often_2 : decode cX3_often 2 = .ok (.putfield 61, 3) := by decide +kernel
theorem dX3_often_5 : decode cX3_often 5 = .ok (.iload_n 1, 1) := by decide +kernel
theorem dX3_often_6 : decode cX3_often 6 = .ok (.i2l, 1) := by decide +kernel
theorem dX3_often_7 : decode cX3_often 7 = .ok (.lconst 0, 1) := by decide +kernel
theorem dX3_often_8 : decode cX3_often 8 = .ok (.aload_n 0, 1) := by decide +kernel
theorem dX3_often_9 : decode cX3_often 9 = .ok (.getfield 141, 3) := by decide +kernel
theorem dX3_often_12 : decode cX3_often 12 = .ok (.i2l, 1) := by decide +kernel
theorem dX3_often_13 : decode cX3_often 13 = .ok (.invokestatic 67, 3) := by decide +kernel
theorem dX3_often_16 : decode cX3_often 16 = .ok (.ifCond .eq 10, 3) := by decide +kernel
theorem dX3_often_19 : decode cX3_often 19 = .ok (.aload_n 0, 1) := by decide +kernel
theorem dX3_often_20 : decode cX3_often 20 = .ok (.invokevirtual 155, 3) := by decide +kernel
theorem dX3_often_23 : decode cX3_often 23 = .ok (.ifCond .ne 5, 3) := by decide +kernel
theorem dX3_often_26 : decode cX3_often 26 = .ok (.iconst (-1), 1) := by decide +kernel
theorem dX3_often_27 : decode cX3_often 27 = .ok (.ireturn, 1) := by decide +kernel
theorem dX3_often_28 : decode cX3_often 28 = .ok (.aload_n 0, 1) := by decide +kernel
theorem dX3_often_29 : decode cX3_often 29 = .ok (.iconst (-1), 1) := by decide +kernel
theorem dX3_often_30 : decode cX3_often 30 = .ok (.invokevirtual 199, 3) := by decide +kernel
theorem dX3_often_33 : decode cX3_often 33 = .ok (.iconst 0, 1) := by decide +kernel
theorem dX3_often_34 : decode cX3_often 34 = .ok (.istore_n 2, 1) := by decide +kernel
theorem dX3_often_35 : decode cX3_often 35 = .ok (.iconst 0, 1) := by decide +kernel
theorem dX3_often_36 : decode cX3_often 36 = .ok (.istore_n 3, 1) := by decide +kernel
theorem dX3_often_37 : decode cX3_often 37 = .ok (.iload_n 3, 1) := by decide +kernel
theorem dX3_often_38 : decode cX3_often 38 = .ok (.iload_n 1, 1) := by decide +kernel
theorem dX3_often_39 : decode cX3_often 39 = .ok (.if_icmp .gt 163, 3) := by decide +kernel
theorem dX3_often_42 : decode cX3_often 42 = .ok (.iconst 0, 1) := by decide +kernel
theorem dX3_often_43 : decode cX3_often 43 = .ok (.istore 4, 2) := by decide +kernel
theorem dX3_often_45 : decode cX3_often 45 = .ok (.iload 4, 2) := by decide +kernel
theorem dX3_often_47 : decode cX3_often 47 = .ok (.iload_n 3, 1) := by decide +kernel
theorem dX3_often_48 : decode cX3_often 48 = .ok (.if_icmp .gt 148, 3) := by decide +kernel
theorem dX3_often_51 : decode cX3_often 51 = .ok (.bipush 21, 2) := by decide +kernel
theorem dX3_often_53 : decode cX3_often 53 = .ok (.iload_n 3, 1) := by decide +kernel
theorem dX3_often_54 : decode cX3_often 54 = .ok (.imul, 1) := by decide +kernel
theorem dX3_often_55 : decode cX3_often 55 = .ok (.iload 4, 2) := by decide +kernel
theorem dX3_often_57 : decode cX3_often 57 = .ok (.iadd, 1) := by decide +kernel
theorem dX3_often_58 : decode cX3_often 58 = .ok (.istore 5, 2) := by decide +kernel
theorem dX3_often_60 : decode cX3_often 60 = .ok (.aload_n 0, 1) := by decide +kernel
theorem dX3_often_61 : decode cX3_often 61 = .ok (.getfield 58, 3) := by decide +kernel
theorem dX3_often_64 : decode cX3_often 64 = .ok (.iload 5, 2) := by decide +kernel
theorem dX3_often_66 : decode cX3_often 66 = .ok (.iload_n 3, 1) := by decide +kernel
theorem dX3_often_67 : decode cX3_often 67 = .ok (.ifCond .ne 7, 3) := by decide +kernel
theorem dX3_often_70 : decode cX3_often 70 = .ok (.iconst 1, 1) := by decide +kernel
theorem dX3_often_71 : decode cX3_often 71 = .ok (.goto 4, 3) := by decide +kernel
theorem dX3_often_74 : decode cX3_often 74 = .ok (.iconst 0, 1) := by decide +kernel
theorem dX3_often_75 : decode cX3_often 75 = .ok (.iastore, 1) := by decide +kernel
theorem dX3_often_76 : decode cX3_often 76 = .ok (.iload_n 3, 1) := by decide +kernel
theorem dX3_often_77 : decode cX3_often 77 = .ok (.ifCond .le 42, 3) := by decide +kernel
theorem dX3_often_80 : decode cX3_often 80 = .ok (.iload 4, 2) := by decide +kernel
theorem dX3_often_82 : decode cX3_often 82 = .ok (.ifCond .le 37, 3) := by decide +kernel
theorem dX3_often_85 : decode cX3_often 85 = .ok (.aload_n 0, 1) := by decide +kernel
theorem dX3_often_86 : decode cX3_often 86 = .ok (.iload_n 3, 1) := by decide +kernel
theorem dX3_often_87 : decode cX3_often 87 = .ok (.iconst 1, 1) := by decide +kernel
theorem dX3_often_88 : decode cX3_often 88 = .ok (.isub, 1) := by decide +kernel
theorem dX3_often_89 : decode cX3_often 89 = .ok (.iload 4, 2) := by decide +kernel
theorem dX3_often_91 : decode cX3_often 91 = .ok (.iconst 1, 1) := by decide +kernel
end
section
theorem dX3_often_92 : decode cX3_often 92 = .ok (.isub, 1) := by decide +kernel
theorem dX3_often_93 : decode cX3_often 93 = .ok (.invokevirtual 203, 3) := by decide +kernel
theorem dX3_often_96 : decode cX3_often 96 = .ok (.ifCond .ne 23, 3) := by decide +kernel
theorem dX3_often_99 : decode cX3_often 99 = .ok (.aload_n 0, 1) := by decide +kernel
theorem dX3_often_100 : decode cX3_often 100 = .ok (.getfield 58, 3) := by decide +kernel
theorem dX3_often_103 : decode cX3_often 103 = .ok (.iload 5, 2) := by decide +kernel
theorem dX3_often_105 : decode cX3_often 105 = .ok (.dup2, 1) := by decide +kernel
theorem dX3_often_106 : decode cX3_often 106 = .ok (.iaload, 1) := by decide +kernel
theorem dX3_often_107 : decode cX3_often 107 = .ok (.aload_n 0, 1) := by decide +kernel
theorem dX3_often_108 : decode cX3_often 108 = .ok (.getfield 58, 3) := by decide +kernel
theorem dX3_often_111 : decode cX3_often 111 = .ok (.iload 5, 2) := by decide +kernel
theorem dX3_often_113 : decode cX3_often 113 = .ok (.bipush 22, 2) := by decide +kernel
theorem dX3_often_115 : decode cX3_often 115 = .ok (.isub, 1) := by decide +kernel
theorem dX3_often_116 : decode cX3_often 116 = .ok (.iaload, 1) := by decide +kernel
theorem dX3_often_117 : decode cX3_often 117 = .ok (.iadd, 1) := by decide +kernel
theorem dX3_often_118 : decode cX3_often 118 = .ok (.iastore, 1) := by decide +kernel
theorem dX3_often_119 : decode cX3_often 119 = .ok (.iload_n 3, 1) := by decide +kernel
theorem dX3_often_120 : decode cX3_often 120 = .ok (.ifCond .le 41, 3) := by decide +kernel
theorem dX3_often_123 : decode cX3_often 123 = .ok (.iload 4, 2) := by decide +kernel
theorem dX3_often_125 : decode cX3_often 125 = .ok (.iload_n 3, 1) := by decide +kernel
theorem dX3_often_126 : decode cX3_often 126 = .ok (.if_icmp .ge 35, 3) := by decide +kernel
theorem dX3_often_129 : decode cX3_often 129 = .ok (.aload_n 0, 1) := by decide +kernel
theorem dX3_often_130 : decode cX3_often 130 = .ok (.iload_n 3, 1) := by decide +kernel
theorem dX3_often_131 : decode cX3_often 131 = .ok (.iconst 1, 1) := by decide +kernel
theorem dX3_often_132 : decode cX3_often 132 = .ok (.isub, 1) := by decide +kernel
theorem dX3_often_133 : decode cX3_often 133 = .ok (.iload 4, 2) := by decide +kernel
theorem dX3_often_135 : decode cX3_often 135 = .ok (.invokevirtual 203, 3) := by decide +kernel
theorem dX3_often_138 : decode cX3_often 138 = .ok (.ifCond .ne 23, 3) := by decide +kernel
theorem dX3_often_141 : decode cX3_often 141 = .ok (.aload_n 0, 1) := by decide +kernel
theorem dX3_often_142 : decode cX3_often 142 = .ok (.getfield 58, 3) := by decide +kernel
theorem dX3_often_145 : decode cX3_often 145 = .ok (.iload 5, 2) := by decide +kernel
theorem dX3_often_147 : decode cX3_often 147 = .ok (.dup2, 1) := by decide +kernel
theorem dX3_often_148 : decode cX3_often 148 = .ok (.iaload, 1) := by decide +kernel
theorem dX3_often_149 : decode cX3_often 149 = .ok (.aload_n 0, 1) := by decide +kernel
theorem dX3_often_150 : decode cX3_often 150 = .ok (.getfield 58, 3) := by decide +kernel
theorem dX3_often_153 : decode cX3_often 153 = .ok (.iload 5, 2) := by decide +kernel
theorem dX3_often_155 : decode cX3_often 155 = .ok (.bipush 21, 2) := by decide +kernel
theorem dX3_often_157 : decode cX3_often 157 = .ok (.isub, 1) := by decide +kernel
theorem dX3_often_158 : decode cX3_often 158 = .ok (.iaload, 1) := by decide +kernel
theorem dX3_often_159 : decode cX3_often 159 = .ok (.iadd, 1) := by decide +kernel
theorem dX3_often_160 : decode cX3_often 160 = .ok (.iastore, 1) := by decide +kernel
theorem dX3_often_161 : decode cX3_often 161 = .ok (.iload_n 2, 1) := by decide +kernel
theorem dX3_often_162 : decode cX3_often 162 = .ok (.iload_n 3, 1) := by decide +kernel
theorem dX3_often_163 : decode cX3_often 163 = .ok (.iload_n 1, 1) := by decide +kernel
theorem dX3_often_164 : decode cX3_often 164 = .ok (.if_icmp .ne 23, 3) := by decide +kernel
theorem dX3_often_167 : decode cX3_often 167 = .ok (.aload_n 0, 1) := by decide +kernel
theorem dX3_often_168 : decode cX3_often 168 = .ok (.iload_n 3, 1) := by decide +kernel
theorem dX3_often_169 : decode cX3_often 169 = .ok (.iload 4, 2) := by decide +kernel
theorem dX3_often_171 : decode cX3_often 171 = .ok (.invokevirtual 203, 3) := by decide +kernel
theorem dX3_often_174 : decode cX3_often 174 = .ok (.ifCond .eq 13, 3) := by decide +kernel
theorem dX3_often_177 : decode cX3_often 177 = .ok (.aload_n 0, 1) := by decide +kernel
theorem dX3_often_178 : decode cX3_often 178 = .ok (.getfield 58, 3) := by decide +kernel
theorem dX3_often_181 : decode cX3_often 181 = .ok (.iload 5, 2) := by decide +kernel
theorem dX3_often_183 : decode cX3_often 183 = .ok (.iaload, 1) := by decide +kernel
theorem dX3_often_184 : decode cX3_often 184 = .ok (.goto 4, 3) := by decide +kernel
theorem dX3_often_187 : decode cX3_often 187 = .ok (.iconst 0, 1) := by decide +kernel
theorem dX3_often_188 : decode cX3_often 188 = .ok (.iadd, 1) := by decide +kernel
theorem dX3_often_189 : decode cX3_often 189 = .ok (.istore_n 2, 1) := by decide +kernel
theorem dX3_often_190 : decode cX3_often 190 = .ok (.iinc 4 1, 3) := by decide +kernel
theorem dX3_often_193 : decode cX3_often 193 = .ok (.goto (-148), 3) := by decide +kernel
theorem dX3_often_196 : decode cX3_often 196 = .ok (.iinc 3 1, 3) := by decide +kernel
theorem dX3_often_199 : decode cX3_often 199 = .ok (.goto (-162), 3) := by decide +kernel
theorem dX3_often_202 : decode cX3_often 202 = .ok (.iload_n 2, 1) := by decide +kernel
theorem dX3_often_203 : decode cX3_often 203 = .ok (.aload_n 0, 1) := by decide +kernel
theorem dX3_often_204 : decode cX3_often 204 = .ok (.getfield 141, 3) := by decide +kernel
theorem dX3_often_207 : decode cX3_often 207 = .ok (.iload_n 1, 1) := by decide +kernel
theorem dX3_often_208 : decode cX3_often 208 = .ok (.isub, 1) := by decide +kernel
theorem dX3_often_209 : decode cX3_often 209 = .ok (.ishl, 1) := by decide +kernel
theorem dX3_often_210 : decode cX3_often 210 = .ok (.ireturn, 1) := by decide +kernel
set_option maxRecDepth 20000 in
theorem ggX3_fixed_X3_isIn : GoodIn wsX3_fixed wsX3_isIn := goodIn_r _ [7] (by decide +kernel) (by decide +kernel)
set_option maxRecDepth 20000 in
theorem gX3_fixed_X3_isIn : GoodIn wsX3_fixed (va_wsS RX3 67 yX3_isIn wsX3_isIn) := goodIn_app (goodIn_of _ (by decide +kernel)) ggX3_fixed_X3_isIn
set_option maxRecDepth 20000 in
theorem ggX3_fixed_X3_isAny : GoodIn wsX3_fixed wsX3_isAny := goodIn_r _ [11, 12, 13, 14, 6, 15, 16, 17, 18, 19, 20, 21, 22, 23, 24, 25, 26, 27, 28, 29, 4, 5, 7, 30, 31, 32, 33, 34, 35, 36, 37, 38, 39, 40, 41, 42, 43, 44, 45, 46, 47, 48, 49, 50, 51, 52, 88, 89, 90, 91, 92, 93, 94, 95, 96, 97, 98, 99, 100, 101, 102, 103, 104, 105, 106, 107] (by decide +kernel) (by decide +kernel)
set_option maxRecDepth 20000 in
theorem gX3_fixed_X3_isAny : GoodIn wsX3_fixed (wsV RX3 155 RX3 yX3_isAny wsX3_isAny) := goodIn_app (goodIn_of _ (by decide +kernel)) ggX3_fixed_X3_isAny
set_option maxRecDepth 20000 in
theorem ggX3_fixed_X3_refuse : GoodIn wsX3_fixed wsX3_refuse := goodIn_r _ [56, 1, 88, 89, 90, 91, 92, 93, 94, 95, 96, 97, 98, 99, 100, 101, 102, 103, 104, 105, 106, 107] (by decide +kernel) (by decide +kernel)
set_option maxRecDepth 20000 in
theorem gX3_fixed_X3_refuse : GoodIn wsX3_fixed (wsV RX3 127 RX3 yX3_refuse wsX3_refuse) := goodIn_app (goodIn_of _ (by decide +kernel)) ggX3_fixed_X3_refuse
set_option maxRecDepth 20000 in
theorem ggX3_fixed_X3_laysTree : GoodIn wsX3_fixed wsX3_laysTree := goodIn_r _ [60, 2, 61, 3, 62, 63, 64, 65, 66, 67, 6, 68, 69, 16, 70, 17, 18, 19, 20, 21, 22, 23, 24, 25, 26, 27, 28, 29, 4, 5, 7, 30, 31, 32, 33, 34, 35, 36, 37, 38, 39, 40, 41, 42, 43, 44, 45, 46, 47, 48, 49, 50, 51, 52, 71, 72, 73, 74, 75, 76, 77, 78, 79, 80, 81, 82, 83, 84, 85, 86, 87, 88, 89, 90, 91, 92, 93, 94, 95, 96, 97, 98, 99, 100, 101, 102, 103, 104, 105, 106, 107] (by decide +kernel) (by decide +kernel)
set_option maxRecDepth 20000 in
theorem gX3_fixed_X3_laysTree : GoodIn wsX3_fixed (wsV RX3 199 RX3 yX3_laysTree wsX3_laysTree) := goodIn_app (goodIn_of _ (by decide +kernel)) ggX3_fixed_X3_laysTree
theorem dX3_fixed_0 : decode cX3_fixed 0 = .ok (.aload_n 0, 1) := by decide +kernel
theorem dX3_fixed_1 : decode cX3_fixed 1 = .ok (.iconst 0, 1) := by decide +kernel
theorem dX3_fixed_2 : decode cX3_fixed 2 = .ok (.putfield 61, 3) := by decide +kernel
theorem dX3_fixed_5 : decode cX3_fixed 5 = .ok (.iload_n 1, 1) := by decide +kernel
theorem dX3_fixed_6 : decode cX3_fixed 6 = .ok (.i2l, 1) := by decide +kernel
theorem dX3_fixed_7 : decode cX3_fixed 7 = .ok (.lconst 0, 1) := by decide +kernel
theorem dX3_fixed_8 : decode cX3_fixed 8 = .ok (.aload_n 0, 1) := by decide +kernel
theorem dX3_fixed_9 : decode cX3_fixed 9 = .ok (.getfield 141, 3) := by decide +kernel
theorem dX3_fixed_12 : decode cX3_fixed 12 = .ok (.i2l, 1) := by decide +kernel
theorem dX3_fixed_13 : decode cX3_fixed 13 = .ok (.invokestatic 67, 3) := by decide +kernel
theorem dX3_fixed_16 : decode cX3_fixed 16 = .ok (.ifCond .eq 10, 3) := by decide +kernel
theorem dX3_fixed_19 : decode cX3_fixed 19 = .ok (.aload_n 0, 1) := by decide +kernel
theorem dX3_fixed_20 : decode cX3_fixed 20 = .ok (.invokevirtual 155, 3) := by decide +kernel
theorem dX3_fixed_23 : decode cX3_fixed 23 = .ok (.ifCond .ne 9, 3) := by decide +kernel
theorem dX3_fixed_26 : decode cX3_fixed 26 = .ok (.aload_n 0, 1) := by decide +kernel
theorem dX3_fixed_27 : decode cX3_fixed 27 = .ok (.invokevirtual 127, 3) := by decide +kernel
theorem dX3_fixed_30 : decode cX3_fixed 30 = .ok (.i2l, 1) := by decide +kernel
theorem dX3_fixed_31 : decode cX3_fixed 31 = .ok (.lreturn, 1) := by decide +kernel
theorem dX3_fixed_32 : decode cX3_fixed 32 = .ok (.aload_n 0, 1) := by decide +kernel
theorem dX3_fixed_33 : decode cX3_fixed 33 = .ok (.iload_n 1, 1) := by decide +kernel
theorem dX3_fixed_34 : decode cX3_fixed 34 = .ok (.invokevirtual 199, 3) := by decide +kernel
theorem dX3_fixed_37 : decode cX3_fixed 37 = .ok (.aload_n 0, 1) := by decide +kernel
theorem dX3_fixed_38 : decode cX3_fixed 38 = .ok (.getfield 46, 3) := by decide +kernel
theorem dX3_fixed_41 : decode cX3_fixed 41 = .ok (.iconst 0, 1) := by decide +kernel
theorem dX3_fixed_42 : decode cX3_fixed 42 = .ok (.laload, 1) := by decide +kernel
theorem dX3_fixed_43 : decode cX3_fixed 43 = .ok (.lreturn, 1) := by decide +kernel
set_option maxRecDepth 20000 in
theorem ggX3_only_X3_isBond : GoodIn wsX3_only wsX3_isBond := goodIn_r _ [8, 9, 10, 11, 7, 12, 84, 85, 86, 87, 88, 89, 90, 91, 92, 93, 94, 95, 96, 97, 98, 99, 100, 101, 102, 103] (by decide +kernel) (by decide +kernel)
set_option maxRecDepth 20000 in
theorem gX3_only_X3_isBond : GoodIn wsX3_only (wsV RX3 87 RX3 yX3_isBond wsX3_isBond) := goodIn_app (goodIn_of _ (by decide +kernel)) ggX3_only_X3_isBond
set_option maxRecDepth 20000 in
theorem ggX3_only_X3_isEligible : GoodIn wsX3_only wsX3_isEligible := goodIn_r _ [16, 2, 17, 18, 19, 20, 21, 22, 7, 23, 24, 10, 11, 12, 25, 26, 27, 28, 29, 30, 31, 32, 33, 34, 35, 36, 37, 38, 39, 40, 41, 42, 43, 44, 45, 46, 47, 84, 85, 86, 87, 88, 89, 90, 91, 92, 93, 94, 95, 96, 97, 98, 99, 100, 101, 102, 103] (by decide +kernel) (by decide +kernel)
set_option maxRecDepth 20000 in
theorem gX3_only_X3_isEligible : GoodIn wsX3_only (wsV RX3 120 RX3 yX3_isEligible wsX3_isEligible) := goodIn_app (goodIn_of _ (by decide +kernel)) ggX3_only_X3_isEligible
set_option maxRecDepth 20000 in
theorem ggX3_only_X3_refuse : GoodIn wsX3_only wsX3_refuse := goodIn_r _ [51, 1, 84, 85, 86, 87, 88, 89, 90, 91, 92, 93, 94, 95, 96, 97, 98, 99, 100, 101, 102, 103] (by decide +kernel) (by decide +kernel)
set_option maxRecDepth 20000 in
theorem gX3_only_X3_refuse : GoodIn wsX3_only (wsV RX3 127 RX3 yX3_refuse wsX3_refuse) := goodIn_app (goodIn_of _ (by decide +kernel)) ggX3_only_X3_refuse
set_option maxRecDepth 20000 in
theorem ggX3_only_X3_laysTree : GoodIn wsX3_only wsX3_laysTree := goodIn_r _ [55, 56, 57, 3, 58, 59, 60, 61, 62, 63, 7, 64, 65, 9, 66, 13, 14, 15, 16, 2, 17, 18, 19, 20, 21, 22, 23, 24, 10, 11, 12, 25, 26, 27, 28, 29, 30, 31, 32, 33, 34, 35, 36, 37, 38, 39, 40, 41, 42, 43, 44, 45, 46, 47, 67, 68, 69, 70, 71, 72, 73, 74, 75, 76, 77, 78, 79, 80, 81, 82, 83, 84, 85, 86, 87, 88, 89, 90, 91, 92, 93, 94, 95, 96, 97, 98, 99, 100, 101, 102, 103] (by decide +kernel) (by decide +kernel)
set_option maxRecDepth 20000 in
theorem gX3_only_X3_laysTree : GoodIn wsX3_only (wsV RX3 199 RX3 yX3_laysTree wsX3_laysTree) := goodIn_app (goodIn_of _ (by decide +kernel)) ggX3_only_X3_laysTree
theorem dX3_only_0 : decode cX3_only 0 = .ok (.aload_n 0, 1) := by decide +kernel
theorem dX3_only_1 : decode cX3_only 1 = .ok (.iconst 0, 1) := by decide +kernel
theorem dX3_only_2 : decode cX3_only 2 = .ok (.putfield 61, 3) := by decide +kernel
theorem dX3_only_5 : decode cX3_only 5 = .ok (.aload_n 0, 1) := by decide +kernel
theorem dX3_only_6 : decode cX3_only 6 = .ok (.iload_n 1, 1) := by decide +kernel
theorem dX3_only_7 : decode cX3_only 7 = .ok (.invokevirtual 87, 3) := by decide +kernel
theorem dX3_only_10 : decode cX3_only 10 = .ok (.ifCond .eq 11, 3) := by decide +kernel
theorem dX3_only_13 : decode cX3_only 13 = .ok (.aload_n 0, 1) := by decide +kernel
theorem dX3_only_14 : decode cX3_only 14 = .ok (.iload_n 1, 1) := by decide +kernel
theorem dX3_only_15 : decode cX3_only 15 = .ok (.invokevirtual 120, 3) := by decide +kernel
theorem dX3_only_18 : decode cX3_only 18 = .ok (.ifCond .ne 9, 3) := by decide +kernel
theorem dX3_only_21 : decode cX3_only 21 = .ok (.aload_n 0, 1) := by decide +kernel
theorem dX3_only_22 : decode cX3_only 22 = .ok (.invokevirtual 127, 3) := by decide +kernel
theorem dX3_only_25 : decode cX3_only 25 = .ok (.i2l, 1) := by decide +kernel
theorem dX3_only_26 : decode cX3_only 26 = .ok (.lreturn, 1) := by decide +kernel
theorem dX3_only_27 : decode cX3_only 27 = .ok (.aload_n 0, 1) := by decide +kernel
theorem dX3_only_28 : decode cX3_only 28 = .ok (.iload_n 1, 1) := by decide +kernel
theorem dX3_only_29 : decode cX3_only 29 = .ok (.putfield 33, 3) := by decide +kernel
theorem dX3_only_32 : decode cX3_only 32 = .ok (.aload_n 0, 1) := by decide +kernel
theorem dX3_only_33 : decode cX3_only 33 = .ok (.iconst (-1), 1) := by decide +kernel
theorem dX3_only_34 : decode cX3_only 34 = .ok (.invokevirtual 199, 3) := by decide +kernel
theorem dX3_only_37 : decode cX3_only 37 = .ok (.aload_n 0, 1) := by decide +kernel
theorem dX3_only_38 : decode cX3_only 38 = .ok (.iconst (-1), 1) := by decide +kernel
theorem dX3_only_39 : decode cX3_only 39 = .ok (.putfield 33, 3) := by decide +kernel
theorem dX3_only_42 : decode cX3_only 42 = .ok (.aload_n 0, 1) := by decide +kernel
theorem dX3_only_43 : decode cX3_only 43 = .ok (.getfield 46, 3) := by decide +kernel
theorem dX3_only_46 : decode cX3_only 46 = .ok (.iconst 0, 1) := by decide +kernel
theorem dX3_only_47 : decode cX3_only 47 = .ok (.laload, 1) := by decide +kernel
theorem dX3_only_48 : decode cX3_only 48 = .ok (.lreturn, 1) := by decide +kernel
set_option maxRecDepth 20000 in
theorem ggX3_without_X3_isBond : GoodIn wsX3_without wsX3_isBond := goodIn_r _ [8, 9, 10, 11, 7, 12, 92, 93, 94, 95, 96, 97, 98, 99, 100, 101, 102, 103, 104, 105, 106, 107, 108, 109, 110, 111] (by decide +kernel) (by decide +kernel)
set_option maxRecDepth 20000 in
theorem gX3_without_X3_isBond : GoodIn wsX3_without (wsV RX3 87 RX3 yX3_isBond wsX3_isBond) := goodIn_app (goodIn_of _ (by decide +kernel)) ggX3_without_X3_isBond
set_option maxRecDepth 20000 in
theorem ggX3_without_X3_refuse : GoodIn wsX3_without wsX3_refuse := goodIn_r _ [16, 1, 92, 93, 94, 95, 96, 97, 98, 99, 100, 101, 102, 103, 104, 105, 106, 107, 108, 109, 110, 111] (by decide +kernel) (by decide +kernel)
set_option maxRecDepth 20000 in
theorem gX3_without_X3_refuse : GoodIn wsX3_without (wsV RX3 127 RX3 yX3_refuse wsX3_refuse) := goodIn_app (goodIn_of _ (by decide +kernel)) ggX3_without_X3_refuse
set_option maxRecDepth 20000 in
theorem ggX3_without_X3_isEligible : GoodIn wsX3_without wsX3_isEligible := goodIn_r _ [20, 21, 3, 22, 23, 24, 25, 26, 7, 27, 28, 10, 11, 12, 29, 30, 31, 32, 33, 34, 35, 36, 37, 38, 39, 40, 41, 42, 43, 44, 45, 46, 47, 48, 49, 50, 51, 92, 93, 94, 95, 96, 97, 98, 99, 100, 101, 102, 103, 104, 105, 106, 107, 108, 109, 110, 111] (by decide +kernel) (by decide +kernel)
set_option maxRecDepth 20000 in
theorem gX3_without_X3_isEligible : GoodIn wsX3_without (wsV RX3 120 RX3 yX3_isEligible wsX3_isEligible) := goodIn_app (goodIn_of _ (by decide +kernel)) ggX3_without_X3_isEligible
set_option maxRecDepth 20000 in
theorem ggX3_without_X3_laysTree : GoodIn wsX3_without wsX3_laysTree := goodIn_r _ [55, 56, 57, 2, 58, 59, 60, 61, 62, 63, 7, 64, 65, 9, 66, 17, 18, 19, 20, 21, 3, 22, 23, 24, 25, 26, 27, 28, 10, 11, 12, 29, 30, 31, 32, 33, 34, 35, 36, 37, 38, 39, 40, 41, 42, 43, 44, 45, 46, 47, 48, 49, 50, 51, 67, 68, 69, 70, 71, 72, 73, 74, 75, 76, 77, 78, 79, 80, 81, 82, 83, 92, 93, 94, 95, 96, 97, 98, 99, 100, 101, 102, 103, 104, 105, 106, 107, 108, 109, 110, 111] (by decide +kernel) (by decide +kernel)
set_option maxRecDepth 20000 in
theorem gX3_without_X3_laysTree : GoodIn wsX3_without (wsV RX3 199 RX3 yX3_laysTree wsX3_laysTree) := goodIn_app (goodIn_of _ (by decide +kernel)) ggX3_without_X3_laysTree
set_option maxRecDepth 20000 in
theorem ggX3_without_X3_isAny : GoodIn wsX3_without wsX3_isAny := goodIn_r _ [87, 88, 89, 90, 7, 91, 9, 17, 18, 19, 20, 21, 3, 22, 23, 24, 25, 26, 27, 28, 10, 11, 12, 29, 30, 31, 32, 33, 34, 35, 36, 37, 38, 39, 40, 41, 42, 43, 44, 45, 46, 47, 48, 49, 50, 51, 92, 93, 94, 95, 96, 97, 98, 99, 100, 101, 102, 103, 104, 105, 106, 107, 108, 109, 110, 111] (by decide +kernel) (by decide +kernel)
set_option maxRecDepth 20000 in
theorem gX3_without_X3_isAny : GoodIn wsX3_without (wsV RX3 155 RX3 yX3_isAny wsX3_isAny) := goodIn_app (goodIn_of _ (by decide +kernel)) ggX3_without_X3_isAny
theorem dX3_without_0 : decode cX3_without 0 = .ok (.aload_n 0, 1) := by decide +kernel
theorem dX3_without_1 : decode cX3_without 1 = .ok (.iconst 0, 1) := by decide +kernel
theorem dX3_without_2 : decode cX3_without 2 = .ok (.putfield 61, 3) := by decide +kernel
theorem dX3_without_5 : decode cX3_without 5 = .ok (.aload_n 0, 1) := by decide +kernel
theorem dX3_without_6 : decode cX3_without 6 = .ok (.iload_n 1, 1) := by decide +kernel
theorem dX3_without_7 : decode cX3_without 7 = .ok (.invokevirtual 87, 3) := by decide +kernel
theorem dX3_without_10 : decode cX3_without 10 = .ok (.ifCond .ne 9, 3) := by decide +kernel
theorem dX3_without_13 : decode cX3_without 13 = .ok (.aload_n 0, 1) := by decide +kernel
theorem dX3_without_14 : decode cX3_without 14 = .ok (.invokevirtual 127, 3) := by decide +kernel
theorem dX3_without_17 : decode cX3_without 17 = .ok (.i2l, 1) := by decide +kernel
theorem dX3_without_18 : decode cX3_without 18 = .ok (.lreturn, 1) := by decide +kernel
theorem dX3_without_19 : decode cX3_without 19 = .ok (.aload_n 0, 1) := by decide +kernel
theorem dX3_without_20 : decode cX3_without 20 = .ok (.iload_n 1, 1) := by decide +kernel
theorem dX3_without_21 : decode cX3_without 21 = .ok (.invokevirtual 120, 3) := by decide +kernel
theorem dX3_without_24 : decode cX3_without 24 = .ok (.ifCond .ne 5, 3) := by decide +kernel
theorem dX3_without_27 : decode cX3_without 27 = .ok (.lconst 0, 1) := by decide +kernel
theorem dX3_without_28 : decode cX3_without 28 = .ok (.lreturn, 1) := by decide +kernel
theorem dX3_without_29 : decode cX3_without 29 = .ok (.aload_n 0, 1) := by decide +kernel
theorem dX3_without_30 : decode cX3_without 30 = .ok (.iconst (-1), 1) := by decide +kernel
theorem dX3_without_31 : decode cX3_without 31 = .ok (.invokevirtual 199, 3) := by decide +kernel
theorem dX3_without_34 : decode cX3_without 34 = .ok (.aload_n 0, 1) := by decide +kernel
theorem dX3_without_35 : decode cX3_without 35 = .ok (.getfield 46, 3) := by decide +kernel
theorem dX3_without_38 : decode cX3_without 38 = .ok (.iconst 0, 1) := by decide +kernel
theorem dX3_without_39 : decode cX3_without 39 = .ok (.laload, 1) := by decide +kernel
theorem dX3_without_40 : decode cX3_without 40 = .ok (.lstore_n 2, 1) := by decide +kernel
theorem dX3_without_41 : decode cX3_without 41 = .ok (.aload_n 0, 1) := by decide +kernel
theorem dX3_without_42 : decode cX3_without 42 = .ok (.iload_n 1, 1) := by decide +kernel
theorem dX3_without_43 : decode cX3_without 43 = .ok (.putfield 36, 3) := by decide +kernel
theorem dX3_without_46 : decode cX3_without 46 = .ok (.aload_n 0, 1) := by decide +kernel
theorem dX3_without_47 : decode cX3_without 47 = .ok (.invokevirtual 155, 3) := by decide +kernel
theorem dX3_without_50 : decode cX3_without 50 = .ok (.istore 4, 2) := by decide +kernel
theorem dX3_without_52 : decode cX3_without 52 = .ok (.iload 4, 2) := by decide +kernel
theorem dX3_without_54 : decode cX3_without 54 = .ok (.ifCond .eq 8, 3) := by decide +kernel
theorem dX3_without_57 : decode cX3_without 57 = .ok (.aload_n 0, 1) := by decide +kernel
theorem dX3_without_58 : decode cX3_without 58 = .ok (.iconst (-1), 1) := by decide +kernel
theorem dX3_without_59 : decode cX3_without 59 = .ok (.invokevirtual 199, 3) := by decide +kernel
theorem dX3_without_62 : decode cX3_without 62 = .ok (.aload_n 0, 1) := by decide +kernel
theorem dX3_without_63 : decode cX3_without 63 = .ok (.iconst (-1), 1) := by decide +kernel
theorem dX3_without_64 : decode cX3_without 64 = .ok (.putfield 36, 3) := by decide +kernel
theorem dX3_without_67 : decode cX3_without 67 = .ok (.iload 4, 2) := by decide +kernel
theorem dX3_without_69 : decode cX3_without 69 = .ok (.ifCond .eq 14, 3) := by decide +kernel
theorem dX3_without_72 : decode cX3_without 72 = .ok (.lload_n 2, 1) := by decide +kernel
theorem dX3_without_73 : decode cX3_without 73 = .ok (.aload_n 0, 1) := by decide +kernel
theorem dX3_without_74 : decode cX3_without 74 = .ok (.getfield 46, 3) := by decide +kernel
theorem dX3_without_77 : decode cX3_without 77 = .ok (.iconst 0, 1) := by decide +kernel
theorem dX3_without_78 : decode cX3_without 78 = .ok (.laload, 1) := by decide +kernel
theorem dX3_without_79 : decode cX3_without 79 = .ok (.lsub, 1) := by decide +kernel
theorem dX3_without_80 : decode cX3_without 80 = .ok (.goto 8, 3) := by decide +kernel
theorem dX3_without_83 : decode cX3_without 83 = .ok (.aload_n 0, 1) := by decide +kernel
theorem dX3_without_84 : decode cX3_without 84 = .ok (.invokevirtual 127, 3) := by decide +kernel
theorem dX3_without_87 : decode cX3_without 87 = .ok (.i2l, 1) := by decide +kernel
theorem dX3_without_88 : decode cX3_without 88 = .ok (.lreturn, 1) := by decide +kernel
set_option maxRecDepth 20000 in
theorem ggX3_isFair_X3_laysTree : GoodIn wsX3_isFair wsX3_laysTree := goodIn_r _ [7, 8, 9, 2, 10, 11, 12, 13, 14, 15, 6, 16, 17, 18, 1, 19, 20, 21, 22, 23, 24, 25, 26, 27, 28, 29, 30, 31, 32, 33, 34, 35, 36, 37, 38, 39, 40, 41, 42, 43, 44, 45, 46, 47, 48, 49, 50, 51, 52, 53, 54, 55, 56, 57, 58, 59, 60, 61, 62, 63, 64, 65, 66, 67, 68, 69, 70, 71, 72, 73, 74, 75, 76, 77, 78, 79, 80, 81, 82, 83, 84, 85, 86, 87, 88, 89, 90, 91, 92, 93, 94] (by decide +kernel) (by decide +kernel)
set_option maxRecDepth 20000 in
theorem gX3_isFair_X3_laysTree : GoodIn wsX3_isFair (wsV RX3 199 RX3 yX3_laysTree wsX3_laysTree) := goodIn_app (goodIn_of _ (by decide +kernel)) ggX3_isFair_X3_laysTree
theorem dX3_isFair_0 : decode cX3_isFair 0 = .ok (.aload_n 0, 1) := by decide +kernel
theorem dX3_isFair_1 : decode cX3_isFair 1 = .ok (.getfield 30, 3) := by decide +kernel
theorem dX3_isFair_4 : decode cX3_isFair 4 = .ok (.istore_n 2, 1) := by decide +kernel
theorem dX3_isFair_5 : decode cX3_isFair 5 = .ok (.aload_n 0, 1) := by decide +kernel
theorem dX3_isFair_6 : decode cX3_isFair 6 = .ok (.iload_n 1, 1) := by decide +kernel
theorem dX3_isFair_7 : decode cX3_isFair 7 = .ok (.putfield 30, 3) := by decide +kernel
theorem dX3_isFair_10 : decode cX3_isFair 10 = .ok (.aload_n 0, 1) := by decide +kernel
theorem dX3_isFair_11 : decode cX3_isFair 11 = .ok (.iconst (-1), 1) := by decide +kernel
theorem dX3_isFair_12 : decode cX3_isFair 12 = .ok (.invokevirtual 199, 3) := by decide +kernel
theorem dX3_isFair_15 : decode cX3_isFair 15 = .ok (.aload_n 0, 1) := by decide +kernel
theorem dX3_isFair_16 : decode cX3_isFair 16 = .ok (.iload_n 2, 1) := by decide +kernel
theorem dX3_isFair_17 : decode cX3_isFair 17 = .ok (.putfield 30, 3) := by decide +kernel
theorem dX3_isFair_20 : decode cX3_isFair 20 = .ok (.aload_n 0, 1) := by decide +kernel
theorem dX3_isFair_21 : decode cX3_isFair 21 = .ok (.getfield 46, 3) := by decide +kernel
theorem dX3_isFair_24 : decode cX3_isFair 24 = .ok (.iconst 0, 1) := by decide +kernel
theorem dX3_isFair_25 : decode cX3_isFair 25 = .ok (.laload, 1) := by decide +kernel
theorem dX3_isFair_26 : decode cX3_isFair 26 = .ok (.lconst 0, 1) := by decide +kernel
theorem dX3_isFair_27 : decode cX3_isFair 27 = .ok (.lcmp, 1) := by decide +kernel
theorem dX3_isFair_28 : decode cX3_isFair 28 = .ok (.ifCond .lt 7, 3) := by decide +kernel
theorem dX3_isFair_31 : decode cX3_isFair 31 = .ok (.iconst 1, 1) := by decide +kernel
theorem dX3_isFair_32 : decode cX3_isFair 32 = .ok (.goto 4, 3) := by decide +kernel
theorem dX3_isFair_35 : decode cX3_isFair 35 = .ok (.iconst 0, 1) := by decide +kernel
theorem dX3_isFair_36 : decode cX3_isFair 36 = .ok (.ireturn, 1) := by decide +kernel
set_option maxRecDepth 20000 in
theorem ggX3_fair_X3_isAny : GoodIn wsX3_fair wsX3_isAny := goodIn_r _ [7, 8, 9, 10, 6, 11, 12, 13, 14, 15, 16, 17, 18, 19, 20, 21, 22, 23, 24, 25, 26, 27, 28, 29, 30, 31, 32, 33, 34, 35, 36, 37, 38, 39, 40, 41, 42, 43, 44, 45, 46, 47, 48, 49, 50, 51, 89, 90, 91, 92, 93, 94, 95, 96, 97, 98, 99, 100, 101, 102, 103, 104, 105, 106, 107, 108] (by decide +kernel) (by decide +kernel)
set_option maxRecDepth 20000 in
theorem gX3_fair_X3_isAny : GoodIn wsX3_fair (wsV RX3 155 RX3 yX3_isAny wsX3_isAny) := goodIn_app (goodIn_of _ (by decide +kernel)) ggX3_fair_X3_isAny
set_option maxRecDepth 20000 in
theorem ggX3_fair_X3_isFair : GoodIn wsX3_fair wsX3_isFair := goodIn_r _ [55, 56, 57, 58, 59, 60, 6, 61, 62, 63, 64, 65, 66, 67, 68, 69, 70, 71, 12, 13, 14, 15, 16, 17, 18, 19, 20, 21, 22, 23, 24, 25, 26, 27, 28, 29, 30, 31, 32, 33, 34, 35, 36, 37, 38, 39, 40, 41, 42, 43, 44, 45, 46, 47, 48, 49, 50, 51, 72, 73, 74, 75, 76, 77, 78, 79, 80, 81, 82, 83, 84, 85, 86, 87, 88, 89, 90, 91, 92, 93, 94, 95, 96, 97, 98, 99, 100, 101, 102, 103, 104, 105, 106, 107, 108] (by decide +kernel) (by decide +kernel)
set_option maxRecDepth 20000 in
theorem gX3_fair_X3_isFair : GoodIn wsX3_fair (wsV RX3 207 RX3 yX3_isFair wsX3_isFair) := goodIn_app (goodIn_of _ (by decide +kernel)) ggX3_fair_X3_isFair
theorem dX3_fair_0 : decode cX3_fair 0 = .ok (.aload_n 0, 1) := by decide +kernel
theorem dX3_fair_1 : decode cX3_fair 1 = .ok (.iconst 0, 1) := by decide +kernel
theorem dX3_fair_2 : decode cX3_fair 2 = .ok (.putfield 61, 3) := by decide +kernel
theorem dX3_fair_5 : decode cX3_fair 5 = .ok (.aload_n 0, 1) := by decide +kernel
theorem dX3_fair_6 : decode cX3_fair 6 = .ok (.invokevirtual 155, 3) := by decide +kernel
theorem dX3_fair_9 : decode cX3_fair 9 = .ok (.ifCond .eq 12, 3) := by decide +kernel
theorem dX3_fair_12 : decode cX3_fair 12 = .ok (.aload_n 0, 1) := by decide +kernel
theorem dX3_fair_13 : decode cX3_fair 13 = .ok (.ldc 206, 2) := by decide +kernel
theorem dX3_fair_15 : decode cX3_fair 15 = .ok (.invokevirtual 207, 3) := by decide +kernel
theorem dX3_fair_18 : decode cX3_fair 18 = .ok (.ifCond .ne 5, 3) := by decide +kernel
theorem dX3_fair_21 : decode cX3_fair 21 = .ok (.iconst (-1), 1) := by decide +kernel
theorem dX3_fair_22 : decode cX3_fair 22 = .ok (.ireturn, 1) := by decide +kernel
theorem dX3_fair_23 : decode cX3_fair 23 = .ok (.iconst 0, 1) := by decide +kernel
theorem dX3_fair_24 : decode cX3_fair 24 = .ok (.istore_n 1, 1) := by decide +kernel
theorem dX3_fair_25 : decode cX3_fair 25 = .ok (.ldc 206, 2) := by decide +kernel
theorem dX3_fair_27 : decode cX3_fair 27 = .ok (.istore_n 2, 1) := by decide +kernel
theorem dX3_fair_28 : decode cX3_fair 28 = .ok (.iload_n 1, 1) := by decide +kernel
theorem dX3_fair_29 : decode cX3_fair 29 = .ok (.iload_n 2, 1) := by decide +kernel
theorem dX3_fair_30 : decode cX3_fair 30 = .ok (.if_icmp .ge 29, 3) := by decide +kernel
theorem dX3_fair_33 : decode cX3_fair 33 = .ok (.iload_n 1, 1) := by decide +kernel
theorem dX3_fair_34 : decode cX3_fair 34 = .ok (.iload_n 2, 1) := by decide +kernel
theorem dX3_fair_35 : decode cX3_fair 35 = .ok (.iadd, 1) := by decide +kernel
theorem dX3_fair_36 : decode cX3_fair 36 = .ok (.iconst 2, 1) := by decide +kernel
theorem dX3_fair_37 : decode cX3_fair 37 = .ok (.idiv, 1) := by decide +kernel
theorem dX3_fair_38 : decode cX3_fair 38 = .ok (.istore_n 3, 1) := by decide +kernel
theorem dX3_fair_39 : decode cX3_fair 39 = .ok (.aload_n 0, 1) := by decide +kernel
theorem dX3_fair_40 : decode cX3_fair 40 = .ok (.iload_n 3, 1) := by decide +kernel
theorem dX3_fair_41 : decode cX3_fair 41 = .ok (.invokevirtual 207, 3) := by decide +kernel
theorem dX3_fair_44 : decode cX3_fair 44 = .ok (.ifCond .eq 8, 3) := by decide +kernel
theorem dX3_fair_47 : decode cX3_fair 47 = .ok (.iload_n 3, 1) := by decide +kernel
theorem dX3_fair_48 : decode cX3_fair 48 = .ok (.istore_n 2, 1) := by decide +kernel
theorem dX3_fair_49 : decode cX3_fair 49 = .ok (.goto 7, 3) := by decide +kernel
theorem dX3_fair_52 : decode cX3_fair 52 = .ok (.iload_n 3, 1) := by decide +kernel
theorem dX3_fair_53 : decode cX3_fair 53 = .ok (.iconst 1, 1) := by decide +kernel
theorem dX3_fair_54 : decode cX3_fair 54 = .ok (.iadd, 1) := by decide +kernel
theorem dX3_fair_55 : decode cX3_fair 55 = .ok (.istore_n 1, 1) := by decide +kernel
theorem dX3_fair_56 : decode cX3_fair 56 = .ok (.goto (-28), 3) := by decide +kernel
theorem dX3_fair_59 : decode cX3_fair 59 = .ok (.iload_n 1, 1) := by decide +kernel
theorem dX3_fair_60 : decode cX3_fair 60 = .ok (.ireturn, 1) := by decide +kernel
theorem dJ9_floorDiv_f86c9_0 : decode cJ9_floorDiv_f86c9 0 = .ok (.lload_n 0, 1) := by decide +kernel
theorem dJ9_floorDiv_f86c9_1 : decode cJ9_floorDiv_f86c9 1 = .ok (.lload_n 2, 1) := by decide +kernel
theorem dJ9_floorDiv_f86c9_2 : decode cJ9_floorDiv_f86c9 2 = .ok (.ldiv, 1) := by decide +kernel
theorem dJ9_floorDiv_f86c9_3 : decode cJ9_floorDiv_f86c9 3 = .ok (.lstore 4, 2) := by decide +kernel
theorem dJ9_floorDiv_f86c9_5 : decode cJ9_floorDiv_f86c9 5 = .ok (.lload_n 0, 1) := by decide +kernel
theorem dJ9_floorDiv_f86c9_6 : decode cJ9_floorDiv_f86c9 6 = .ok (.lload_n 2, 1) := by decide +kernel
theorem dJ9_floorDiv_f86c9_7 : decode cJ9_floorDiv_f86c9 7 = .ok (.lxor, 1) := by decide +kernel
theorem dJ9_floorDiv_f86c9_8 : decode cJ9_floorDiv_f86c9 8 = .ok (.lconst 0, 1) := by decide +kernel
theorem dJ9_floorDiv_f86c9_9 : decode cJ9_floorDiv_f86c9 9 = .ok (.lcmp, 1) := by decide +kernel
theorem dJ9_floorDiv_f86c9_10 : decode cJ9_floorDiv_f86c9 10 = .ok (.ifCond .ge 17, 3) := by decide +kernel
theorem dJ9_floorDiv_f86c9_13 : decode cJ9_floorDiv_f86c9 13 = .ok (.lload 4, 2) := by decide +kernel
theorem dJ9_floorDiv_f86c9_15 : decode cJ9_floorDiv_f86c9 15 = .ok (.lload_n 2, 1) := by decide +kernel
theorem dJ9_floorDiv_f86c9_16 : decode cJ9_floorDiv_f86c9 16 = .ok (.lmul, 1) := by decide +kernel
theorem dJ9_floorDiv_f86c9_17 : decode cJ9_floorDiv_f86c9 17 = .ok (.lload_n 0, 1) := by decide +kernel
theorem dJ9_floorDiv_f86c9_18 : decode cJ9_floorDiv_f86c9 18 = .ok (.lcmp, 1) := by decide +kernel
theorem dJ9_floorDiv_f86c9_19 : decode cJ9_floorDiv_f86c9 19 = .ok (.ifCond .eq 8, 3) := by decide +kernel
theorem dJ9_floorDiv_f86c9_22 : decode cJ9_floorDiv_f86c9 22 = .ok (.lload 4, 2) := by decide +kernel
theorem dJ9_floorDiv_f86c9_24 : decode cJ9_floorDiv_f86c9 24 = .ok (.lconst 1, 1) := by decide +kernel
theorem dJ9_floorDiv_f86c9_25 : decode cJ9_floorDiv_f86c9 25 = .ok (.lsub, 1) := by decide +kernel
theorem dJ9_floorDiv_f86c9_26 : decode cJ9_floorDiv_f86c9 26 = .ok (.lreturn, 1) := by decide +kernel
theorem dJ9_floorDiv_f86c9_27 : decode cJ9_floorDiv_f86c9 27 = .ok (.lload 4, 2) := by decide +kernel
theorem dJ9_floorDiv_f86c9_29 : decode cJ9_floorDiv_f86c9 29 = .ok (.lreturn, 1) := by decide +kernel
theorem dJ9_max_7cf53_0 : decode cJ9_max_7cf53 0 = .ok (.iload_n 0, 1) := by decide +kernel
theorem dJ9_max_7cf53_1 : decode cJ9_max_7cf53 1 = .ok (.iload_n 1, 1) := by decide +kernel
theorem dJ9_max_7cf53_2 : decode cJ9_max_7cf53 2 = .ok (.if_icmp .lt 7, 3) := by decide +kernel
theorem dJ9_max_7cf53_5 : decode cJ9_max_7cf53 5 = .ok (.iload_n 0, 1) := by decide +kernel
theorem dJ9_max_7cf53_6 : decode cJ9_max_7cf53 6 = .ok (.goto 4, 3) := by decide +kernel
theorem dJ9_max_7cf53_9 : decode cJ9_max_7cf53 9 = .ok (.iload_n 1, 1) := by decide +kernel
theorem dJ9_max_7cf53_10 : decode cJ9_max_7cf53 10 = .ok (.ireturn, 1) := by decide +kernel
theorem dJ9_min_7cf53_0 : decode cJ9_min_7cf53 0 = .ok (.iload_n 0, 1) := by decide +kernel
theorem dJ9_min_7cf53_1 : decode cJ9_min_7cf53 1 = .ok (.iload_n 1, 1) := by decide +kernel
theorem dJ9_min_7cf53_2 : decode cJ9_min_7cf53 2 = .ok (.if_icmp .gt 7, 3) := by decide +kernel
theorem dJ9_min_7cf53_5 : decode cJ9_min_7cf53 5 = .ok (.iload_n 0, 1) := by decide +kernel
theorem dJ9_min_7cf53_6 : decode cJ9_min_7cf53 6 = .ok (.goto 4, 3) := by decide +kernel
theorem dJ9_min_7cf53_9 : decode cJ9_min_7cf53 9 = .ok (.iload_n 1, 1) := by decide +kernel
theorem dJ9_min_7cf53_10 : decode cJ9_min_7cf53 10 = .ok (.ireturn, 1) := by decide +kernel
theorem dJ7_fill_53178_0 : decode cJ7_fill_53178 0 = .ok (.iconst 0, 1) := by decide +kernel
theorem dJ7_fill_53178_1 : decode cJ7_fill_53178 1 = .ok (.istore_n 2, 1) := by decide +kernel
theorem dJ7_fill_53178_2 : decode cJ7_fill_53178 2 = .ok (.aload_n 0, 1) := by decide +kernel
theorem dJ7_fill_53178_3 : decode cJ7_fill_53178 3 = .ok (.arraylength, 1) := by decide +kernel
theorem dJ7_fill_53178_4 : decode cJ7_fill_53178 4 = .ok (.istore_n 3, 1) := by decide +kernel
theorem dJ7_fill_53178_5 : decode cJ7_fill_53178 5 = .ok (.iload_n 2, 1) := by decide +kernel
theorem dJ7_fill_53178_6 : decode cJ7_fill_53178 6 = .ok (.iload_n 3, 1) := by decide +kernel
theorem dJ7_fill_53178_7 : decode cJ7_fill_53178 7 = .ok (.if_icmp .ge 13, 3) := by decide +kernel
theorem dJ7_fill_53178_10 : decode cJ7_fill_53178 10 = .ok (.aload_n 0, 1) := by decide +kernel
theorem dJ7_fill_53178_11 : decode cJ7_fill_53178 11 = .ok (.iload_n 2, 1) := by decide +kernel
theorem dJ7_fill_53178_12 : decode cJ7_fill_53178 12 = .ok (.iload_n 1, 1) := by decide +kernel
theorem dJ7_fill_53178_13 : decode cJ7_fill_53178 13 = .ok (.iastore, 1) := by decide +kernel
theorem dJ7_fill_53178_14 : decode cJ7_fill_53178 14 = .ok (.iinc 2 1, 3) := by decide +kernel
theorem dJ7_fill_53178_17 : decode cJ7_fill_53178 17 = .ok (.goto (-12), 3) := by decide +kernel
theorem dJ7_fill_53178_20 : decode cJ7_fill_53178 20 = .ok (.return_, 1) := by decide +kernel
set_option maxRecDepth 20000 in
theorem ggL_of_X2_of : GoodIn wsL_of wsX2_of := goodIn_ca (goodIn_r _ [6, 7, 8, 9, 10, 11, 12, 13, 14, 15, 16, 17, 18, 19, 20, 5, 21, 22, 23, 24, 25, 26, 27, 28, 29, 30, 31, 32, 33, 34, 35, 36, 37, 38, 39, 40, 41, 42, 43, 44, 45, 46, 47, 48, 49, 50] (by decide +kernel) (by decide +kernel)) (goodIn_sub (fun _ h => List.mem_cons_of_mem _ (List.mem_append_right _ h)) (by decide +kernel))
set_option maxRecDepth 20000 in
theorem gL_of_X2_of : GoodIn wsL_of (wsV RL 7 RX2 yX2_of wsX2_of) := goodIn_app (goodIn_of _ (by decide +kernel)) ggL_of_X2_of
theorem dL_of_0 : decode cL_of 0 = .ok (.aload_n 3, 1) := by decide +kernel
theorem dL_of_1 : decode cL_of 1 = .ok (.iconst 0, 1) := by decide +kernel
theorem dL_of_2 : decode cL_of 2 = .ok (.aload_n 0, 1) := by decide +kernel
theorem dL_of_3 : decode cL_of 3 = .ok (.iload_n 1, 1) := by decide +kernel
theorem dL_of_4 : decode cL_of 4 = .ok (.iload_n 2, 1) := by decide +kernel
theorem dL_of_5 : decode cL_of 5 = .ok (.invokevirtual 7, 3) := by decide +kernel
theorem dL_of_8 : decode cL_of 8 = .ok (.i2l, 1) := by decide +kernel
theorem dL_of_9 : decode cL_of 9 = .ok (.lastore, 1) := by decide +kernel
theorem dL_of_10 : decode cL_of 10 = .ok (.goto 7, 3) := by decide +kernel
theorem dL_of_13 : decode cL_of 13 = .ok (.astore 4, 2) := by decide +kernel
theorem dL_of_15 : decode cL_of 15 = .ok (.iconst 1, 1) := by decide +kernel
theorem dL_of_16 : decode cL_of 16 = .ok (.ireturn, 1) := by decide +kernel
theorem dL_of_17 : decode cL_of 17 = .ok (.iconst 0, 1) := by decide +kernel
theorem dL_of_18 : decode cL_of 18 = .ok (.ireturn, 1) := by decide +kernel
set_option maxRecDepth 20000 in
theorem ggL_gap_X2_gap : GoodIn wsL_gap wsX2_gap := goodIn_ca (goodIn_r _ [6, 7, 8, 9, 10, 11, 12, 5, 13, 14, 15, 16, 17, 18, 19, 20, 21, 22, 23, 24, 25, 26, 27, 28, 29, 30, 31, 32, 33, 34, 35, 36, 37, 38, 39, 40, 41, 42, 43, 44, 45, 46, 47, 48, 49, 50, 51, 52, 53, 54, 55, 56, 57, 58, 59, 60, 61, 62, 63, 64, 65, 66, 67, 68, 69, 70, 71, 72, 73, 74, 75, 76, 77, 78, 79, 80, 81, 82, 83, 84, 85, 86, 87, 88, 89, 90, 91, 92, 93, 94, 95, 96, 97, 98, 99, 100, 101] (by decide +kernel) (by decide +kernel)) (goodIn_sub (fun _ h => List.mem_cons_of_mem _ (List.mem_append_right _ h)) (by decide +kernel))
set_option maxRecDepth 20000 in
theorem gL_gap_X2_gap : GoodIn wsL_gap (wsV RL 15 RX2 yX2_gap wsX2_gap) := goodIn_app (goodIn_of _ (by decide +kernel)) ggL_gap_X2_gap
theorem dL_gap_0 : decode cL_gap 0 = .ok (.aload_n 3, 1) := by decide +kernel
theorem dL_gap_1 : decode cL_gap 1 = .ok (.iconst 0, 1) := by decide +kernel
theorem dL_gap_2 : decode cL_gap 2 = .ok (.aload_n 0, 1) := by decide +kernel
theorem dL_gap_3 : decode cL_gap 3 = .ok (.iload_n 1, 1) := by decide +kernel
theorem dL_gap_4 : decode cL_gap 4 = .ok (.iload_n 2, 1) := by decide +kernel
theorem dL_gap_5 : decode cL_gap 5 = .ok (.invokevirtual 15, 3) := by decide +kernel
theorem dL_gap_8 : decode cL_gap 8 = .ok (.lastore, 1) := by decide +kernel
theorem dL_gap_9 : decode cL_gap 9 = .ok (.goto 7, 3) := by decide +kernel
theorem dL_gap_12 : decode cL_gap 12 = .ok (.astore 4, 2) := by decide +kernel
theorem dL_gap_14 : decode cL_gap 14 = .ok (.iconst 1, 1) := by decide +kernel
theorem dL_gap_15 : decode cL_gap 15 = .ok (.ireturn, 1) := by decide +kernel
theorem dL_gap_16 : decode cL_gap 16 = .ok (.iconst 0, 1) := by decide +kernel
theorem dL_gap_17 : decode cL_gap 17 = .ok (.ireturn, 1) := by decide +kernel
set_option maxRecDepth 20000 in
theorem ggL_cost_X2_cost : GoodIn wsL_cost wsX2_cost := goodIn_ca (goodIn_r _ [6, 7, 8, 9, 10, 11, 12, 13, 5, 14, 15, 16, 17, 18, 19, 20, 21, 22, 23, 24, 25, 26, 27, 28, 29, 30, 31, 32, 33, 34, 35, 36, 37, 38, 39, 40, 41, 42, 43, 44, 45, 46, 47, 48, 49, 50, 51, 52, 53, 54, 55, 56, 57, 58, 59, 60, 61, 62, 63, 64, 65, 66, 67, 68, 69, 70, 71, 72, 73, 74, 75, 76, 77, 78, 79, 80, 81, 82, 83, 84, 85, 86, 87, 88, 89, 90, 91, 92, 93, 94, 95, 96, 97, 98, 99, 100] (by decide +kernel) (by decide +kernel)) (goodIn_sub (fun _ h => List.mem_cons_of_mem _ (List.mem_append_right _ h)) (by decide +kernel))
set_option maxRecDepth 20000 in
theorem gL_cost_X2_cost : GoodIn wsL_cost (wsV RL 19 RX2 yX2_cost wsX2_cost) := goodIn_app (goodIn_of _ (by decide +kernel)) ggL_cost_X2_cost
theorem dL_cost_0 : decode cL_cost 0 = .ok (.aload 4, 2) := by decide +kernel
theorem dL_cost_2 : decode cL_cost 2 = .ok (.iconst 0, 1) := by decide +kernel
theorem dL_cost_3 : decode cL_cost 3 = .ok (.aload_n 0, 1) := by decide +kernel
theorem dL_cost_4 : decode cL_cost 4 = .ok (.iload_n 1, 1) := by decide +kernel
theorem dL_cost_5 : decode cL_cost 5 = .ok (.iload_n 2, 1) := by decide +kernel
theorem dL_cost_6 : decode cL_cost 6 = .ok (.iload_n 3, 1) := by decide +kernel
theorem dL_cost_7 : decode cL_cost 7 = .ok (.invokevirtual 19, 3) := by decide +kernel
theorem dL_cost_10 : decode cL_cost 10 = .ok (.lastore, 1) := by decide +kernel
theorem dL_cost_11 : decode cL_cost 11 = .ok (.goto 7, 3) := by decide +kernel
theorem dL_cost_14 : decode cL_cost 14 = .ok (.astore 5, 2) := by decide +kernel
theorem dL_cost_16 : decode cL_cost 16 = .ok (.iconst 1, 1) := by decide +kernel
theorem dL_cost_17 : decode cL_cost 17 = .ok (.ireturn, 1) := by decide +kernel
theorem dL_cost_18 : decode cL_cost 18 = .ok (.iconst 0, 1) := by decide +kernel
theorem dL_cost_19 : decode cL_cost 19 = .ok (.ireturn, 1) := by decide +kernel
set_option maxRecDepth 20000 in
theorem ggL_value_X2_value : GoodIn wsL_value wsX2_value := goodIn_ca (goodIn_r _ [6, 7, 8, 9, 10, 11, 12, 13, 5, 14, 15, 16, 17, 18, 19, 20, 21, 22, 23, 24, 25, 26, 27, 28, 29, 30, 31, 32, 33, 34, 35, 36, 37, 38, 39, 40, 41, 42, 43, 44, 45, 46, 47, 48, 49, 50, 51, 52, 53, 54, 55, 56, 57, 58, 59, 60, 61, 62, 63, 64, 65, 66, 67, 68, 69, 70, 71, 72, 73, 74, 75, 76, 77, 78, 79, 80, 81, 82, 83, 84, 85, 86, 87, 88, 89, 90, 91, 92, 93, 94, 95, 96, 97, 98, 99, 100, 101, 102, 103, 104, 105, 106, 107, 108, 109, 110, 111, 112, 113, 114, 115, 116, 117, 118, 119, 120, 121, 122, 123, 124, 125, 126, 127, 128, 129, 130, 131, 132, 133, 134, 135, 136, 137, 138, 139, 140, 141, 142, 143, 144, 145, 146, 147, 148, 149, 150] (by decide +kernel) (by decide +kernel)) (goodIn_sub (fun _ h => List.mem_cons_of_mem _ (List.mem_append_right _ h)) (by decide +kernel))
set_option maxRecDepth 20000 in
theorem gL_value_X2_value : GoodIn wsL_value (wsV RL 23 RX2 yX2_value wsX2_value) := goodIn_app (goodIn_of _ (by decide +kernel)) ggL_value_X2_value
theorem dL_value_0 : decode cL_value 0 = .ok (.aload_n 3, 1) := by decide +kernel
theorem dL_value_1 : decode cL_value 1 = .ok (.iconst 0, 1) := by decide +kernel
theorem dL_value_2 : decode cL_value 2 = .ok (.aload_n 0, 1) := by decide +kernel
theorem dL_value_3 : decode cL_value 3 = .ok (.iload_n 1, 1) := by decide +kernel
theorem dL_value_4 : decode cL_value 4 = .ok (.iload_n 2, 1) := by decide +kernel
theorem dL_value_5 : decode cL_value 5 = .ok (.invokevirtual 23, 3) := by decide +kernel
theorem dL_value_8 : decode cL_value 8 = .ok (.lastore, 1) := by decide +kernel
theorem dL_value_9 : decode cL_value 9 = .ok (.goto 7, 3) := by decide +kernel
theorem dL_value_12 : decode cL_value 12 = .ok (.astore 4, 2) := by decide +kernel
theorem dL_value_14 : decode cL_value 14 = .ok (.iconst 1, 1) := by decide +kernel
theorem dL_value_15 : decode cL_value 15 = .ok (.ireturn, 1) := by decide +kernel
theorem dL_value_16 : decode cL_value 16 = .ok (.iconst 0, 1) := by decide +kernel
theorem dL_value_17 : decode cL_value 17 = .ok (.ireturn, 1) := by decide +kernel
set_option maxRecDepth 20000 in
theorem ggL_fixed_X2_fixed : GoodIn wsL_fixed wsX2_fixed := goodIn_ca (goodIn_r _ [6, 7, 8, 9, 10, 11, 12, 13, 14, 15, 5, 16, 17, 18, 19, 20, 21, 22, 23, 24, 25, 26, 27, 28, 29, 30, 31, 32, 33, 34, 35, 36, 37, 38, 39, 40, 41, 42, 43, 44, 45, 46, 47, 48, 49, 50, 51, 52, 53, 54, 55, 56, 57, 58, 59, 60, 61, 62, 63, 64, 65, 66, 67, 68, 69, 70, 71, 72, 73, 74, 75, 76, 77, 78, 79, 80, 81, 82, 83, 84, 85, 86, 87, 88, 89, 90, 91, 92, 93, 94, 95, 96, 97, 98, 99, 100, 101, 102, 103, 104, 105, 106, 107, 108, 109, 110, 111, 112, 113, 114, 115, 116, 117, 118, 119, 120, 121, 122, 123, 124, 125, 126, 127, 128, 129, 130, 131, 132, 133, 134, 135, 136, 137, 138, 139, 140] (by decide +kernel) (by decide +kernel)) (goodIn_sub (fun _ h => List.mem_cons_of_mem _ (List.mem_append_right _ h)) (by decide +kernel))
set_option maxRecDepth 20000 in
theorem gL_fixed_X2_fixed : GoodIn wsL_fixed (wsV RL 26 RX2 yX2_fixed wsX2_fixed) := goodIn_app (goodIn_of _ (by decide +kernel)) ggL_fixed_X2_fixed
theorem dL_fixed_0 : decode cL_fixed 0 = .ok (.aload_n 2, 1) := by decide +kernel
theorem dL_fixed_1 : decode cL_fixed 1 = .ok (.iconst 0, 1) := by decide +kernel
theorem dL_fixed_2 : decode cL_fixed 2 = .ok (.aload_n 0, 1) := by decide +kernel
theorem dL_fixed_3 : decode cL_fixed 3 = .ok (.iload_n 1, 1) := by decide +kernel
theorem dL_fixed_4 : decode cL_fixed 4 = .ok (.invokevirtual 26, 3) := by decide +kernel
theorem dL_fixed_7 : decode cL_fixed 7 = .ok (.lastore, 1) := by decide +kernel
theorem dL_fixed_8 : decode cL_fixed 8 = .ok (.goto 6, 3) := by decide +kernel
theorem dL_fixed_11 : decode cL_fixed 11 = .ok (.astore_n 3, 1) := by decide +kernel
theorem dL_fixed_12 : decode cL_fixed 12 = .ok (.iconst 1, 1) := by decide +kernel
theorem dL_fixed_13 : decode cL_fixed 13 = .ok (.ireturn, 1) := by decide +kernel
theorem dL_fixed_14 : decode cL_fixed 14 = .ok (.iconst 0, 1) := by decide +kernel
theorem dL_fixed_15 : decode cL_fixed 15 = .ok (.ireturn, 1) := by decide +kernel
set_option maxRecDepth 20000 in
theorem ggL_only_X2_only : GoodIn wsL_only wsX2_only := goodIn_ca (goodIn_r _ [6, 7, 8, 9, 10, 11, 5, 12, 13, 14, 15, 16, 17, 18, 19, 20, 21, 22, 23, 24, 25, 26, 27, 28, 29, 30, 31, 32, 33, 34, 35, 36, 37, 38, 39, 40, 41, 42, 43, 44, 45, 46, 47, 48, 49, 50, 51, 52, 53, 54, 55, 56, 57, 58, 59, 60, 61, 62, 63, 64, 65, 66, 67, 68, 69, 70, 71, 72, 73, 74, 75, 76, 77, 78, 79, 80, 81, 82, 83, 84, 85, 86, 87, 88, 89, 90, 91, 92, 93, 94, 95, 96, 97, 98, 99, 100, 101, 102, 103, 104, 105, 106, 107, 108, 109, 110, 111, 112, 113, 114, 115, 116, 117, 118, 119, 120, 121, 122, 123, 124, 125, 126, 127, 128, 129, 130, 131, 132, 133, 134, 135, 136, 137, 138, 139, 140, 141] (by decide +kernel) (by decide +kernel)) (goodIn_sub (fun _ h => List.mem_cons_of_mem _ (List.mem_append_right _ h)) (by decide +kernel))
set_option maxRecDepth 20000 in
theorem gL_only_X2_only : GoodIn wsL_only (wsV RL 30 RX2 yX2_only wsX2_only) := goodIn_app (goodIn_of _ (by decide +kernel)) ggL_only_X2_only
theorem dL_only_0 : decode cL_only 0 = .ok (.aload_n 2, 1) := by decide +kernel
theorem dL_only_1 : decode cL_only 1 = .ok (.iconst 0, 1) := by decide +kernel
theorem dL_only_2 : decode cL_only 2 = .ok (.aload_n 0, 1) := by decide +kernel
theorem dL_only_3 : decode cL_only 3 = .ok (.iload_n 1, 1) := by decide +kernel
theorem dL_only_4 : decode cL_only 4 = .ok (.invokevirtual 30, 3) := by decide +kernel
theorem dL_only_7 : decode cL_only 7 = .ok (.lastore, 1) := by decide +kernel
theorem dL_only_8 : decode cL_only 8 = .ok (.goto 6, 3) := by decide +kernel
theorem dL_only_11 : decode cL_only 11 = .ok (.astore_n 3, 1) := by decide +kernel
theorem dL_only_12 : decode cL_only 12 = .ok (.iconst 1, 1) := by decide +kernel
theorem dL_only_13 : decode cL_only 13 = .ok (.ireturn, 1) := by decide +kernel
theorem dL_only_14 : decode cL_only 14 = .ok (.iconst 0, 1) := by decide +kernel
theorem dL_only_15 : decode cL_only 15 = .ok (.ireturn, 1) := by decide +kernel
set_option maxRecDepth 20000 in
theorem ggL_without_X2_without : GoodIn wsL_without wsX2_without := goodIn_ca (goodIn_r _ [6, 7, 8, 9, 10, 11, 5, 12, 13, 14, 15, 16, 17, 18, 19, 20, 21, 22, 23, 24, 25, 26, 27, 28, 29, 30, 31, 32, 33, 34, 35, 36, 37, 38, 39, 40, 41, 42, 43, 44, 45, 46, 47, 48, 49, 50, 51, 52, 53, 54, 55, 56, 57, 58, 59, 60, 61, 62, 63, 64, 65, 66, 67, 68, 69, 70, 71, 72, 73, 74, 75, 76, 77, 78, 79, 80, 81, 82, 83, 84, 85, 86, 87, 88, 89, 90, 91, 92, 93, 94, 95, 96, 97, 98, 99, 100, 101, 102, 103, 104, 105, 106, 107, 108, 109, 110, 111, 112, 113, 114, 115, 116, 117, 118, 119, 120, 121, 122, 123, 124, 125, 126, 127, 128, 129, 130, 131, 132, 133, 134, 135, 136, 137, 138, 139, 140, 141, 142, 143, 144, 145] (by decide +kernel) (by decide +kernel)) (goodIn_sub (fun _ h => List.mem_cons_of_mem _ (List.mem_append_right _ h)) (by decide +kernel))
set_option maxRecDepth 20000 in
theorem gL_without_X2_without : GoodIn wsL_without (wsV RL 33 RX2 yX2_without wsX2_without) := goodIn_app (goodIn_of _ (by decide +kernel)) ggL_without_X2_without
theorem dL_without_0 : decode cL_without 0 = .ok (.aload_n 2, 1) := by decide +kernel
theorem dL_without_1 : decode cL_without 1 = .ok (.iconst 0, 1) := by decide +kernel
theorem dL_without_2 : decode cL_without 2 = .ok (.aload_n 0, 1) := by decide +kernel
theorem dL_without_3 : decode cL_without 3 = .ok (.iload_n 1, 1) := by decide +kernel
theorem dL_without_4 : decode cL_without 4 = .ok (.invokevirtual 33, 3) := by decide +kernel
theorem dL_without_7 : decode cL_without 7 = .ok (.lastore, 1) := by decide +kernel
theorem dL_without_8 : decode cL_without 8 = .ok (.goto 6, 3) := by decide +kernel
theorem dL_without_11 : decode cL_without 11 = .ok (.astore_n 3, 1) := by decide +kernel
theorem dL_without_12 : decode cL_without 12 = .ok (.iconst 1, 1) := by decide +kernel
theorem dL_without_13 : decode cL_without 13 = .ok (.ireturn, 1) := by decide +kernel
theorem dL_without_14 : decode cL_without 14 = .ok (.iconst 0, 1) := by decide +kernel
theorem dL_without_15 : decode cL_without 15 = .ok (.ireturn, 1) := by decide +kernel
end
section
theorem zz_end : True := trivial
end

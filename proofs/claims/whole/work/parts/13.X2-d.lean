abbrev rmX2_takeCheapest : Room := { frames := 3, cells := 0, slots := 0, locals := 67 }
theorem lkX2_takeCheapest_44 : Cond.fieldLink RX2 44 "DeliveryBasket" "size" "I" ∈ wsX2_takeCheapest := by decide +kernel
theorem iwX2_takeCheapest_X2 : ∀ w ∈ wsX20, w ∈ wsX2_takeCheapest := fun _ h => List.mem_cons_of_mem _ (List.mem_append_left _ (List.mem_append_right _ h))
theorem lkX2_takeCheapest_40 : Cond.fieldLink RX2 40 "DeliveryBasket" "taken" "[I" ∈ wsX2_takeCheapest := by decide +kernel
theorem lkX2_takeCheapest_11 : Cond.fieldLink RX2 11 "DeliveryBasket" "bonds" "[LDeliveryBasket$Bond;" ∈ wsX2_takeCheapest := by decide +kernel
theorem lkX2_takeCheapest_98 : Cond.fieldLink RX2 98 "DeliveryBasket$Bond" "stock" "I" ∈ wsX2_takeCheapest := by decide +kernel
theorem iwX2_takeCheapest_X0 : ∀ w ∈ wsX00, w ∈ wsX2_takeCheapest := fun _ h => List.mem_cons_of_mem _ (List.mem_append_right _ h)
theorem lkX2_takeCheapest_252 : Cond.methodLink RX2 252 Lib.Math.min.name ∈ wsX2_takeCheapest := by decide +kernel
theorem lkX2_takeCheapest_stmin : Cond.static Lib.Math.min.name ∈ wsX2_takeCheapest := by decide +kernel
theorem lkX2_takeCheapest_iniM : Cond.initialized "java/lang/Math" ∈ wsX2_takeCheapest := by decide +kernel
theorem lkX2_takeCheapest_comin : Cond.code Lib.Math.min.name Lib.Math.min.code 2 (some .int) ∈ wsX2_takeCheapest := by decide +kernel
theorem lkX2_takeCheapest_36 : Cond.fieldLink RX2 36 "DeliveryBasket" "costs" "[J" ∈ wsX2_takeCheapest := by decide +kernel
def bkX2_takeCheapest_70  (rec : ST × Int32 × Int32 × Int32 → Option (Int32 × ST)) (σ : ST) (x4 : Int32) (x5 : Int32) (x6 : Int32) : Option (Int32 × ST) := if (gI σ 0 0 1) ≤ x6 then (if x5 = (0 : Int32) then (some ((1 : Int32), σ)) else (some ((0 : Int32), σ))) else (if x4 = (0 : Int32) then (if x5 = (0 : Int32) then (some ((1 : Int32), σ)) else (some ((0 : Int32), σ))) else ((mX2_leastCost σ x4).bind fun q_5 => if q_5 = (-1 : Int32) then (rec (σ, x4, x5, (x6 + (1 : Int32)))) else (gd (inb q_5 8) (gd (decide ((gP σ (Int32.toNatClampNeg q_5)) < 8)) (gd (inb q_5 8) (sv (sI σ 5 0 (Int32.toNatClampNeg q_5) (if (gI σ 2 (gP σ (Int32.toNatClampNeg q_5)) 5) < x5 then (gI σ 2 (gP σ (Int32.toNatClampNeg q_5)) 5) else x5)) fun σ_10 => gd (inb q_5 8) (rec (σ_10, (x4 &&& (((1 : Int32) <<< (q_5 &&& 31)) ^^^ (-1 : Int32))), (x5 - (gI σ_10 5 0 (Int32.toNatClampNeg q_5))), (x6 + (1 : Int32))))))))))
def kX2_takeCheapest_70  (n : Nat) (a : ST × Int32 × Int32 × Int32) : Option (Int32 × ST) := fx (fun rec a => bkX2_takeCheapest_70  rec a.1 a.2.1 a.2.2.1 a.2.2.2) n a
set_option maxHeartbeats 4000000 in
set_option maxRecDepth 100000 in
theorem kX2_takeCheapest_70_ok {p : Program} {l : Launch} {e : Env} {s : State} {m : MethodId} {args : Array Value} {below : List Frame} {meth : Method} {c : Code} {D : va_G} {cy : Nat → ClassId} {ad : Nat → Nat → Nat} {A : Nat → Prop} (C : Cx p s m args meth c cX2_takeCheapest 8 (some .boolean) RX2 wsX2_takeCheapest D cy A) (q : Int32 × ST) : ∀ (n : Nat) (σ : ST) (x4 : Int32) (x5 : Int32) (x6 : Int32), ∀ (H : Heap) (locs : List Loc), va_P D vwCl (cw cy ad σ) H → va_D A (cw cy ad σ) → va_S A s.heap H locs → ∀ ls : Array Slot, lv_has ls 8 [(0, .ref (ad 0 0)), (4, .int x4), (5, .int x5), (6, .int x6)] → kX2_takeCheapest_70 n (σ, x4, x5, x6) = some q → W p l e rmX2_takeCheapest s m args below meth c H locs 0 0 (MQ below (zQi D (cw cy ad q.2) A q.1) args s 0 0 A) (F0 m 70 ls []) := by
  obtain ⟨hx, hb, hml, hown, hts, hr, hlocks, hK, hA⟩ := id C
  intro n
  induction n with
  | zero => intro σ x4 x5 x6 H locs hP hD hS ls hl hm; cases hm
  | succ n ih =>
    intro σ x4 x5 x6 H locs hP hD hS ls hl hm
    have hm : bkX2_takeCheapest_70  (kX2_takeCheapest_70 n) σ x4 x5 x6 = some q := hm
    unfold bkX2_takeCheapest_70 at hm
    refine lv_iload hx hb dX2_takeCheapest_70 (lv_at hl 3 rfl) ?_
    refine lv_aload_n hx hb dX2_takeCheapest_72 rfl (lv_at hl 0 rfl) ?_
    refine va_get (D := D) (ci := 2) (v := .int (gI σ 0 0 1)) (C := RX2) (T := TX2) (N := 9) hx hb hts iwX2_takeCheapest_X2 hown hK.1 hP 0 cw_0 rfl 1 (by decide) (hts _ lkX2_takeCheapest_44) (fun _ h9 => h9) rfl dX2_takeCheapest_73 ?_
    refine lv_icmp_ge (tgt := 149) hx hb dX2_takeCheapest_76 (by decide) (fun c_1 => ?_) (fun c_1 => ?_)
    · have hm := ifp c_1 hm
      refine lv_iload hx hb dX2_takeCheapest_149 (lv_at hl 2 rfl) ?_
      refine lv_if_ne (tgt := 158) hx hb dX2_takeCheapest_151 (by decide) (fun c_2 => ?_) (fun c_2 => ?_)
      · have hm := ifn c_2 hm
        refine lv_iconst (v := 0) hx hb dX2_takeCheapest_158 (by decide) ?_
        exact z_z hx hb hr hlocks (by decide) hm hP hD hS dX2_takeCheapest_159
      · have hm := ifp c_2 hm
        refine lv_iconst (v := 1) hx hb dX2_takeCheapest_154 (by decide) ?_
        refine lv_goto (tgt := 159) hx hb dX2_takeCheapest_155 (by decide) ?_
        exact z_z hx hb hr hlocks (by decide) hm hP hD hS dX2_takeCheapest_159
    · have hm := ifn c_1 hm
      refine lv_iload hx hb dX2_takeCheapest_79 (lv_at hl 1 rfl) ?_
      refine lv_if_eq (tgt := 149) hx hb dX2_takeCheapest_81 (by decide) (fun c_3 => ?_) (fun c_3 => ?_)
      · have hm := ifp c_3 hm
        refine lv_iload hx hb dX2_takeCheapest_149 (lv_at hl 2 rfl) ?_
        refine lv_if_ne (tgt := 158) hx hb dX2_takeCheapest_151 (by decide) (fun c_4 => ?_) (fun c_4 => ?_)
        · have hm := ifn c_4 hm
          refine lv_iconst (v := 0) hx hb dX2_takeCheapest_158 (by decide) ?_
          exact z_z hx hb hr hlocks (by decide) hm hP hD hS dX2_takeCheapest_159
        · have hm := ifp c_4 hm
          refine lv_iconst (v := 1) hx hb dX2_takeCheapest_154 (by decide) ?_
          refine lv_goto (tgt := 159) hx hb dX2_takeCheapest_155 (by decide) ?_
          exact z_z hx hb hr hlocks (by decide) hm hP hD hS dX2_takeCheapest_159
      · have hm := ifn c_3 hm
        refine lv_aload_n hx hb dX2_takeCheapest_84 rfl (lv_at hl 0 rfl) ?_
        refine lv_iload hx hb dX2_takeCheapest_85 (lv_at hl 1 rfl) ?_
        obtain ⟨q_5, hq_5, hm⟩ := ob hm
        refine zc_i (zr_V [.int x4] [] ⟨hx, hb, hml, hown, hts⟩ (ctX2_leastCost l D cy ad σ  x4 q_5 hq_5 _) (cwV 1 hts gX2_takeCheapest_X2_leastCost rfl rfl rfl (by decide +kernel) ⟨Nat.le_of_ble_eq_true rfl, Nat.le_of_ble_eq_true rfl⟩) hK hP hD 0 cw_0 rfl rfl rfl hl.1 rfl (Nat.le_of_ble_eq_true rfl) dX2_takeCheapest_87 ⟨Nat.zero_le _, Nat.zero_le _⟩) hD hS hA (fun H locs hP hD hS => ?_)
        refine lv_istore (lv' := [(7, .int q_5), (0, .ref (ad 0 0)), (4, .int x4), (5, .int x5), (6, .int x6)]) hx hb dX2_takeCheapest_90 hl (by decide) rfl (fun ls hl => ?_)
        refine lv_iload hx hb dX2_takeCheapest_92 (lv_at hl 0 rfl) ?_
        refine lv_iconst (v := -1) hx hb dX2_takeCheapest_94 (by decide) ?_
        refine lv_icmp_eq (tgt := 143) hx hb dX2_takeCheapest_95 (by decide) (fun c_6 => ?_) (fun c_6 => ?_)
        · have hm := ifp c_6 hm
          refine lv_iinc (v := (x6 + (1 : Int32))) (lv' := [(6, .int (x6 + (1 : Int32))), (7, .int q_5), (0, .ref (ad 0 0)), (4, .int x4), (5, .int x5)]) hx hb dX2_takeCheapest_143 hl (k := 4) rfl rfl (by decide) rfl (fun ls hl => ?_)
          refine lv_goto (tgt := 70) hx hb dX2_takeCheapest_146 (by decide) ?_
          exact ih σ x4 x5 (x6 + (1 : Int32)) _ _ hP hD hS _ (lv_sub hl [2, 3, 4, 0] rfl) hm
        · have hm := ifn c_6 hm
          refine lv_aload_n hx hb dX2_takeCheapest_98 rfl (lv_at hl 1 rfl) ?_
          refine va_get (D := D) (ci := 2) (v := .ref (ad 5 0)) (C := RX2) (T := TX2) (N := 9) hx hb hts iwX2_takeCheapest_X2 hown hK.1 hP 0 cw_0 rfl 8 (by decide) (hts _ lkX2_takeCheapest_40) (fun _ h9 => h9) rfl dX2_takeCheapest_99 ?_
          refine lv_iload hx hb dX2_takeCheapest_102 (lv_at hl 0 rfl) ?_
          refine lv_iload hx hb dX2_takeCheapest_104 (lv_at hl 3 rfl) ?_
          refine lv_aload_n hx hb dX2_takeCheapest_106 rfl (lv_at hl 1 rfl) ?_
          refine va_get (D := D) (ci := 2) (v := .ref (ad 1 0)) (C := RX2) (T := TX2) (N := 9) hx hb hts iwX2_takeCheapest_X2 hown hK.1 hP 0 cw_0 rfl 0 (by decide) (hts _ lkX2_takeCheapest_11) (fun _ h9 => h9) rfl dX2_takeCheapest_107 ?_
          refine lv_iload hx hb dX2_takeCheapest_110 (lv_at hl 0 rfl) ?_
          obtain ⟨h_7, hm⟩ := gd_some hm
          obtain ⟨h_8, hm⟩ := gd_some hm
          have h_8 := lt_of_dec h_8
          refine z_ald (f := fun i => ad 13 (gP σ i)) hx hb hK.1 hP 1 2 cw_1 rfl rfl (inb_vp h_7) dX2_takeCheapest_112 ?_
          refine va_get (D := D) (ci := 0) (v := .int (gI σ 2 (gP σ (Int32.toNatClampNeg q_5)) 5)) (C := RX0) (T := TX0) (N := 10) hx hb hts iwX2_takeCheapest_X0 hown hK.1 hP (13 + (gP σ (Int32.toNatClampNeg q_5))) (cw_13 h_8) rfl 5 (by decide) (hts _ lkX2_takeCheapest_98) (fun _ h9 => h9) rfl dX2_takeCheapest_113 ?_
          refine va_mmin hx hb (hml.trans hl.1.symm) hown (hts _ lkX2_takeCheapest_252) (hts _ lkX2_takeCheapest_stmin) (hts _ lkX2_takeCheapest_iniM) (hts _ lkX2_takeCheapest_comin) (Nat.le_of_ble_eq_true rfl) (Nat.le_of_ble_eq_true rfl) (Nat.zero_le _) (Nat.zero_le _) dX2_takeCheapest_116 ?_
          obtain ⟨h_9, hm⟩ := gd_some hm
          refine va_iast hx hb hK.1 hP hD hS 5 0 cw_5 rfl (inb_vp h_9) dX2_takeCheapest_119 (fun H locs hP hD hS => ?_)
          have hP := eP cw_s5 hP
          have hD := eD cw_s5 hD
          obtain ⟨σ_10, e_10, hm⟩ := sv_some hm
          have hP : va_P D vwCl (cw cy ad σ_10) H := by rw [e_10]; exact hP
          have hD : va_D A (cw cy ad σ_10) := by rw [e_10]; exact hD
          refine lv_iload hx hb dX2_takeCheapest_120 (lv_at hl 3 rfl) ?_
          refine lv_aload_n hx hb dX2_takeCheapest_122 rfl (lv_at hl 1 rfl) ?_
          refine va_get (D := D) (ci := 2) (v := .ref (ad 5 0)) (C := RX2) (T := TX2) (N := 9) hx hb hts iwX2_takeCheapest_X2 hown hK.1 hP 0 cw_0 rfl 8 (by decide) (hts _ lkX2_takeCheapest_40) (fun _ h9 => h9) rfl dX2_takeCheapest_123 ?_
          refine lv_iload hx hb dX2_takeCheapest_126 (lv_at hl 0 rfl) ?_
          obtain ⟨h_11, hm⟩ := gd_some hm
          refine va_iald hx hb hK.1 hP 5 0 cw_5 rfl (inb_vp h_11) dX2_takeCheapest_128 ?_
          refine lv_isub hx hb dX2_takeCheapest_129 ?_
          refine lv_istore (lv' := [(5, .int (x5 - (gI σ_10 5 0 (Int32.toNatClampNeg q_5)))), (7, .int q_5), (0, .ref (ad 0 0)), (4, .int x4), (6, .int x6)]) hx hb dX2_takeCheapest_130 hl (by decide) rfl (fun ls hl => ?_)
          refine lv_iload hx hb dX2_takeCheapest_132 (lv_at hl 3 rfl) ?_
          refine lv_iconst (v := 1) hx hb dX2_takeCheapest_134 (by decide) ?_
          refine lv_iload hx hb dX2_takeCheapest_135 (lv_at hl 1 rfl) ?_
          refine lv_ishl hx hb dX2_takeCheapest_137 ?_
          refine lv_iconst (v := -1) hx hb dX2_takeCheapest_138 (by decide) ?_
          refine lv_ixor hx hb dX2_takeCheapest_139 ?_
          refine lv_iand hx hb dX2_takeCheapest_140 ?_
          refine lv_istore (lv' := [(4, .int (x4 &&& (((1 : Int32) <<< (q_5 &&& 31)) ^^^ (-1 : Int32)))), (5, .int (x5 - (gI σ_10 5 0 (Int32.toNatClampNeg q_5)))), (7, .int q_5), (0, .ref (ad 0 0)), (6, .int x6)]) hx hb dX2_takeCheapest_141 hl (by decide) rfl (fun ls hl => ?_)
          refine lv_iinc (v := (x6 + (1 : Int32))) (lv' := [(6, .int (x6 + (1 : Int32))), (4, .int (x4 &&& (((1 : Int32) <<< (q_5 &&& 31)) ^^^ (-1 : Int32)))), (5, .int (x5 - (gI σ_10 5 0 (Int32.toNatClampNeg q_5)))), (7, .int q_5), (0, .ref (ad 0 0))]) hx hb dX2_takeCheapest_143 hl (k := 4) rfl rfl (by decide) rfl (fun ls hl => ?_)
          refine lv_goto (tgt := 70) hx hb dX2_takeCheapest_146 (by decide) ?_
          exact ih σ_10 (x4 &&& (((1 : Int32) <<< (q_5 &&& 31)) ^^^ (-1 : Int32))) (x5 - (gI σ_10 5 0 (Int32.toNatClampNeg q_5))) (x6 + (1 : Int32)) _ _ hP hD hS _ (lv_sub hl [4, 1, 2, 0] rfl) hm
def bkX2_takeCheapest_17  (rec : ST × Int32 × Int32 × Int32 × Int32 × Int32 → Option (Int32 × ST)) (σ : ST) (x1 : Int32) (x2 : Int32) (x3 : Int32) (x4 : Int32) (x5 : Int32) : Option (Int32 × ST) := if (gI σ 0 0 1) ≤ x5 then (kX2_takeCheapest_70 FU (σ, x4, x1, (0 : Int32))) else (gd (inb x5 8) (gd (decide ((gP σ (Int32.toNatClampNeg x5)) < 8)) ((mX0_priceAt σ (gP σ (Int32.toNatClampNeg x5)) x2).bind fun q_15 => gd (inb x5 8) (gd (decide ((gP q_15.2 (Int32.toNatClampNeg x5)) < 8)) ((mX0_invoiceBy q_15.2 (gP q_15.2 (Int32.toNatClampNeg x5)) (Int32.toInt64 x3)).bind fun q_18 => gd (inb x5 8) (sv (sJ q_15.2 0 0 (Int32.toNatClampNeg x5) ((Int32.toInt64 q_15.1) - q_18)) fun σ_20 => rec (σ_20, x1, x2, x3, x4, (x5 + (1 : Int32)))))))))
def kX2_takeCheapest_17  (n : Nat) (a : ST × Int32 × Int32 × Int32 × Int32 × Int32) : Option (Int32 × ST) := fx (fun rec a => bkX2_takeCheapest_17  rec a.1 a.2.1 a.2.2.1 a.2.2.2.1 a.2.2.2.2.1 a.2.2.2.2.2) n a
set_option maxHeartbeats 4000000 in
set_option maxRecDepth 100000 in
theorem kX2_takeCheapest_17_ok {p : Program} {l : Launch} {e : Env} {s : State} {m : MethodId} {args : Array Value} {below : List Frame} {meth : Method} {c : Code} {D : va_G} {cy : Nat → ClassId} {ad : Nat → Nat → Nat} {A : Nat → Prop} (C : Cx p s m args meth c cX2_takeCheapest 8 (some .boolean) RX2 wsX2_takeCheapest D cy A) (q : Int32 × ST) : ∀ (n : Nat) (σ : ST) (x1 : Int32) (x2 : Int32) (x3 : Int32) (x4 : Int32) (x5 : Int32), ∀ (H : Heap) (locs : List Loc), va_P D vwCl (cw cy ad σ) H → va_D A (cw cy ad σ) → va_S A s.heap H locs → ∀ ls : Array Slot, lv_has ls 8 [(0, .ref (ad 0 0)), (1, .int x1), (2, .int x2), (3, .int x3), (4, .int x4), (5, .int x5)] → kX2_takeCheapest_17 n (σ, x1, x2, x3, x4, x5) = some q → W p l e rmX2_takeCheapest s m args below meth c H locs 0 0 (MQ below (zQi D (cw cy ad q.2) A q.1) args s 0 0 A) (F0 m 17 ls []) := by
  obtain ⟨hx, hb, hml, hown, hts, hr, hlocks, hK, hA⟩ := id C
  intro n
  induction n with
  | zero => intro σ x1 x2 x3 x4 x5 H locs hP hD hS ls hl hm; cases hm
  | succ n ih =>
    intro σ x1 x2 x3 x4 x5 H locs hP hD hS ls hl hm
    have hm : bkX2_takeCheapest_17  (kX2_takeCheapest_17 n) σ x1 x2 x3 x4 x5 = some q := hm
    unfold bkX2_takeCheapest_17 at hm
    refine lv_iload hx hb dX2_takeCheapest_17 (lv_at hl 5 rfl) ?_
    refine lv_aload_n hx hb dX2_takeCheapest_19 rfl (lv_at hl 0 rfl) ?_
    refine va_get (D := D) (ci := 2) (v := .int (gI σ 0 0 1)) (C := RX2) (T := TX2) (N := 9) hx hb hts iwX2_takeCheapest_X2 hown hK.1 hP 0 cw_0 rfl 1 (by decide) (hts _ lkX2_takeCheapest_44) (fun _ h9 => h9) rfl dX2_takeCheapest_20 ?_
    refine lv_icmp_ge (tgt := 64) hx hb dX2_takeCheapest_23 (by decide) (fun c_12 => ?_) (fun c_12 => ?_)
    · have hm := ifp c_12 hm
      refine lv_iload_n hx hb dX2_takeCheapest_64 rfl (lv_at hl 1 rfl) ?_
      refine lv_istore (lv' := [(5, .int x1), (0, .ref (ad 0 0)), (1, .int x1), (2, .int x2), (3, .int x3), (4, .int x4)]) hx hb dX2_takeCheapest_65 hl (by decide) rfl (fun ls hl => ?_)
      refine lv_iconst (v := 0) hx hb dX2_takeCheapest_67 (by decide) ?_
      refine lv_istore (lv' := [(6, .int (0 : Int32)), (5, .int x1), (0, .ref (ad 0 0)), (1, .int x1), (2, .int x2), (3, .int x3), (4, .int x4)]) hx hb dX2_takeCheapest_68 hl (by decide) rfl (fun ls hl => ?_)
      exact kX2_takeCheapest_70_ok C q FU σ x4 x1 (0 : Int32) _ _ hP hD hS _ (lv_sub hl [2, 6, 1, 0] rfl) hm
    · have hm := ifn c_12 hm
      refine lv_aload_n hx hb dX2_takeCheapest_26 rfl (lv_at hl 0 rfl) ?_
      refine va_get (D := D) (ci := 2) (v := .ref (ad 4 0)) (C := RX2) (T := TX2) (N := 9) hx hb hts iwX2_takeCheapest_X2 hown hK.1 hP 0 cw_0 rfl 7 (by decide) (hts _ lkX2_takeCheapest_36) (fun _ h9 => h9) rfl dX2_takeCheapest_27 ?_
      refine lv_iload hx hb dX2_takeCheapest_30 (lv_at hl 5 rfl) ?_
      refine lv_aload_n hx hb dX2_takeCheapest_32 rfl (lv_at hl 0 rfl) ?_
      refine va_get (D := D) (ci := 2) (v := .ref (ad 1 0)) (C := RX2) (T := TX2) (N := 9) hx hb hts iwX2_takeCheapest_X2 hown hK.1 hP 0 cw_0 rfl 0 (by decide) (hts _ lkX2_takeCheapest_11) (fun _ h9 => h9) rfl dX2_takeCheapest_33 ?_
      refine lv_iload hx hb dX2_takeCheapest_36 (lv_at hl 5 rfl) ?_
      obtain ⟨h_13, hm⟩ := gd_some hm
      obtain ⟨h_14, hm⟩ := gd_some hm
      have h_14 := lt_of_dec h_14
      refine z_ald (f := fun i => ad 13 (gP σ i)) hx hb hK.1 hP 1 2 cw_1 rfl rfl (inb_vp h_13) dX2_takeCheapest_38 ?_
      refine lv_iload_n hx hb dX2_takeCheapest_39 rfl (lv_at hl 2 rfl) ?_
      obtain ⟨q_15, hq_15, hm⟩ := ob hm
      refine zc_i (zr_V [.int x2] [.int x5, .ref (ad 4 0)] ⟨hx, hb, hml, hown, hts⟩ (ctX0_priceAt l D cy ad σ h_14 (gP σ (Int32.toNatClampNeg x5)) x2 q_15 hq_15 _) (cwV 1 hts gX2_takeCheapest_X0_priceAt rfl rfl rfl (by decide +kernel) ⟨Nat.le_of_ble_eq_true rfl, Nat.le_of_ble_eq_true rfl⟩) hK hP hD (13 + (gP σ (Int32.toNatClampNeg x5))) (cw_13 h_14) rfl rfl rfl hl.1 rfl (Nat.le_of_ble_eq_true rfl) dX2_takeCheapest_40 ⟨Nat.zero_le _, Nat.zero_le _⟩) hD hS hA (fun H locs hP hD hS => ?_)
      refine lv_i2l hx hb dX2_takeCheapest_43 rfl ?_
      refine lv_aload_n hx hb dX2_takeCheapest_44 rfl (lv_at hl 0 rfl) ?_
      refine va_get (D := D) (ci := 2) (v := .ref (ad 1 0)) (C := RX2) (T := TX2) (N := 9) hx hb hts iwX2_takeCheapest_X2 hown hK.1 hP 0 cw_0 rfl 0 (by decide) (hts _ lkX2_takeCheapest_11) (fun _ h9 => h9) rfl dX2_takeCheapest_45 ?_
      refine lv_iload hx hb dX2_takeCheapest_48 (lv_at hl 5 rfl) ?_
      obtain ⟨h_16, hm⟩ := gd_some hm
      obtain ⟨h_17, hm⟩ := gd_some hm
      have h_17 := lt_of_dec h_17
      refine z_ald (f := fun i => ad 13 (gP q_15.2 i)) hx hb hK.1 hP 1 2 cw_1 rfl rfl (inb_vp h_16) dX2_takeCheapest_50 ?_
      refine lv_iload_n hx hb dX2_takeCheapest_51 rfl (lv_at hl 3 rfl) ?_
      refine lv_i2l hx hb dX2_takeCheapest_52 rfl ?_
      obtain ⟨q_18, hq_18, hm⟩ := ob hm
      refine zc_l (zr_V [.long (Int32.toInt64 x3)] [.long (Int32.toInt64 q_15.1), .int x5, .ref (ad 4 0)] ⟨hx, hb, hml, hown, hts⟩ (ctX0_invoiceBy l D cy ad q_15.2 h_17 (gP q_15.2 (Int32.toNatClampNeg x5)) (Int32.toInt64 x3) q_18 hq_18 _) (cwV 1 hts gX2_takeCheapest_X0_invoiceBy rfl rfl rfl (by decide +kernel) ⟨Nat.le_of_ble_eq_true rfl, Nat.le_of_ble_eq_true rfl⟩) hK hP hD (13 + (gP q_15.2 (Int32.toNatClampNeg x5))) (cw_13 h_17) rfl rfl rfl hl.1 rfl (Nat.le_of_ble_eq_true rfl) dX2_takeCheapest_53 ⟨Nat.zero_le _, Nat.zero_le _⟩) hD hS hA (fun H locs hP hD hS => ?_)
      refine lv_lsub hx hb dX2_takeCheapest_56 ?_
      obtain ⟨h_19, hm⟩ := gd_some hm
      refine va_last hx hb hK.1 hP hD hS 4 1 cw_4 rfl (inb_vp h_19) dX2_takeCheapest_57 (fun H locs hP hD hS => ?_)
      have hP := eP cw_s4 hP
      have hD := eD cw_s4 hD
      obtain ⟨σ_20, e_20, hm⟩ := sv_some hm
      have hP : va_P D vwCl (cw cy ad σ_20) H := by rw [e_20]; exact hP
      have hD : va_D A (cw cy ad σ_20) := by rw [e_20]; exact hD
      refine lv_iinc (v := (x5 + (1 : Int32))) (lv' := [(5, .int (x5 + (1 : Int32))), (0, .ref (ad 0 0)), (1, .int x1), (2, .int x2), (3, .int x3), (4, .int x4)]) hx hb dX2_takeCheapest_58 hl (k := 5) rfl rfl (by decide) rfl (fun ls hl => ?_)
      refine lv_goto (tgt := 17) hx hb dX2_takeCheapest_61 (by decide) ?_
      exact ih σ_20 x1 x2 x3 x4 (x5 + (1 : Int32)) _ _ hP hD hS _ (lv_sub hl [1, 2, 3, 4, 5, 0] rfl) hm
def mX2_takeCheapest (σ : ST) (a1 : Int32) (a2 : Int32) (a3 : Int32) : Option (Int32 × ST) := (mX2_eligibleBits σ).bind fun q_21 => sv (sR σ 5 0 (fun _ => (0 : Int32))) fun σ_23 => kX2_takeCheapest_17 FU (σ_23, a1, a2, a3, q_21, (0 : Int32))
set_option maxHeartbeats 4000000 in
set_option maxRecDepth 100000 in
theorem ctX2_takeCheapest (l : Launch) (D : va_G) (cy : Nat → ClassId) (ad : Nat → Nat → Nat) (σ : ST) (a1 : Int32) (a2 : Int32) (a3 : Int32) (q : Int32 × ST) (hm : mX2_takeCheapest σ a1 a2 a3 = some q) : zMi l yX2_takeCheapest wsX2_takeCheapest rmX2_takeCheapest D cy [.ref (ad 0 0), .int a1, .int a2, .int a3] (cw cy ad σ) q.1 (cw cy ad q.2) := by
  intro sz
  refine Met.ofW (cc := cX2_takeCheapest) (maxL := 8) (ret := (some .boolean)) (by decide) rfl ?_
  intro p e s m args below meth c s₁ B hml hv
  obtain ⟨rfl, hsz, hP, hK, hD0⟩ := hv
  have hx := B.exec
  have hb := B.bytes
  have hr := B.returns
  have hts := atoms_spec (ws := wsX2_takeCheapest) B.pre
  have hown : s.vm.findClass RX2 = some m.cls := findClass_of_methodNamed B.named
  have hlocks := B.notSynchronized
  subst hsz
  have hD := hD0.self (sz := s.heap.size)
  generalize hAe : va_A (cw cy ad σ) s.heap.size = A at hD ⊢
  have hA : ∀ q : Nat, s.heap.size ≤ q → A q := fun q h => by rw [← hAe]; exact Or.inr h
  have hS : va_S A s.heap s.heap [] := va_S.rf
  have C : Cx p s m _ meth c cX2_takeCheapest 8 (some .boolean) RX2 wsX2_takeCheapest D cy A := ⟨hx, hb, hml, hown, hts, hr, hlocks, hK, hA⟩
  have hl := lv_entry ([.ref (ad 0 0), .int a1, .int a2, .int a3]) (n := 8) (Nat.le_of_ble_eq_true rfl)
  rw [lg_entry_eq]
  generalize (lg_sl ([.ref (ad 0 0), .int a1, .int a2, .int a3]) ++ List.replicate (8 - (lg_sl ([.ref (ad 0 0), .int a1, .int a2, .int a3])).length) Slot.unset).toArray = ls at hl ⊢
  have hl : lv_has ls 8 [(0, .ref (ad 0 0)), (1, .int a1), (2, .int a2), (3, .int a3)] := hl
  unfold mX2_takeCheapest at hm
  refine lv_aload_n hx hb dX2_takeCheapest_0 rfl (lv_at hl 0 rfl) ?_
  obtain ⟨q_21, hq_21, hm⟩ := ob hm
  refine zc_i (zr_V [] [] ⟨hx, hb, hml, hown, hts⟩ (ctX2_eligibleBits l D cy ad σ   q_21 hq_21 _) (cwV 0 hts gX2_takeCheapest_X2_eligibleBits rfl rfl rfl (by decide +kernel) ⟨Nat.le_of_ble_eq_true rfl, Nat.le_of_ble_eq_true rfl⟩) hK hP hD 0 cw_0 rfl rfl rfl hl.1 rfl (Nat.le_of_ble_eq_true rfl) dX2_takeCheapest_1 ⟨Nat.zero_le _, Nat.zero_le _⟩) hD hS hA (fun H locs hP hD hS => ?_)
  refine lv_istore (lv' := [(4, .int q_21), (0, .ref (ad 0 0)), (1, .int a1), (2, .int a2), (3, .int a3)]) hx hb dX2_takeCheapest_4 hl (by decide) rfl (fun ls hl => ?_)
  refine lv_aload_n hx hb dX2_takeCheapest_6 rfl (lv_at hl 1 rfl) ?_
  refine va_get (D := D) (ci := 2) (v := .ref (ad 5 0)) (C := RX2) (T := TX2) (N := 9) hx hb hts iwX2_takeCheapest_X2 hown hK.1 hP 0 cw_0 rfl 8 (by decide) (hts _ lkX2_takeCheapest_40) (fun _ h9 => h9) rfl dX2_takeCheapest_7 ?_
  refine lv_iconst (v := 0) hx hb dX2_takeCheapest_10 (by decide) ?_
  refine zc_v (zr_S [.ref (ad 5 0), .int (0 : Int32)] [] ⟨hx, hb, hml, hown, hts⟩ (ctJ7_fill l D cy (cw cy ad σ) 5 (ad 5 0) (0 : Int32) (by decide) cw_5 _) (va_cwS 2 hts gX2_takeCheapest_J7_fill_53178 rfl rfl rfl (by decide +kernel) ⟨Nat.le_of_ble_eq_true rfl, Nat.le_of_ble_eq_true rfl⟩) hK hP hD rfl hl.1 rfl (Nat.le_of_ble_eq_true rfl) dX2_takeCheapest_11 ⟨Nat.zero_le _, Nat.zero_le _⟩) hD hS hA (fun H locs hP hD hS => ?_)
  have hP := eP cw_r5 hP
  have hD := eD cw_r5 hD
  obtain ⟨σ_23, e_23, hm⟩ := sv_some hm
  have hP : va_P D vwCl (cw cy ad σ_23) H := by rw [e_23]; exact hP
  have hD : va_D A (cw cy ad σ_23) := by rw [e_23]; exact hD
  refine lv_iconst (v := 0) hx hb dX2_takeCheapest_14 (by decide) ?_
  refine lv_istore (lv' := [(5, .int (0 : Int32)), (4, .int q_21), (0, .ref (ad 0 0)), (1, .int a1), (2, .int a2), (3, .int a3)]) hx hb dX2_takeCheapest_15 hl (by decide) rfl (fun ls hl => ?_)
  exact kX2_takeCheapest_17_ok C q FU σ_23 a1 a2 a3 q_21 (0 : Int32) _ _ hP hD hS _ (lv_sub hl [2, 3, 4, 5, 1, 0] rfl) hm
abbrev rmX2_meet : Room := { frames := 4, cells := 0, slots := 0, locals := 94 }
theorem lkX2_meet_40 : Cond.fieldLink RX2 40 "DeliveryBasket" "taken" "[I" ∈ wsX2_meet := by decide +kernel
theorem iwX2_meet_X2 : ∀ w ∈ wsX20, w ∈ wsX2_meet := fun _ h => List.mem_cons_of_mem _ (List.mem_append_left _ (List.mem_append_right _ h))
def bkX2_meet_26  (σ : ST) (x1 : Int32) (x2 : Int32) (x3 : Int32) (x4 : Int32) : Option (Int32 × ST) := (mX2_takeCheapest σ x1 x2 x3).bind fun q_1 => if x4 = (-1 : Int32) then (if q_1.1 = (0 : Int32) then (some ((0 : Int32), q_1.2)) else (some ((1 : Int32), q_1.2))) else (if q_1.1 = (0 : Int32) then (some ((-1 : Int32), q_1.2)) else (gd (inb x4 8) (some ((gI q_1.2 5 0 (Int32.toNatClampNeg x4)), q_1.2))))
def kX2_meet_26  (a : ST × Int32 × Int32 × Int32 × Int32) : Option (Int32 × ST) := bkX2_meet_26  a.1 a.2.1 a.2.2.1 a.2.2.2.1 a.2.2.2.2
set_option maxHeartbeats 4000000 in
set_option maxRecDepth 100000 in
theorem kX2_meet_26_ok {p : Program} {l : Launch} {e : Env} {s : State} {m : MethodId} {args : Array Value} {below : List Frame} {meth : Method} {c : Code} {D : va_G} {cy : Nat → ClassId} {ad : Nat → Nat → Nat} {A : Nat → Prop} (C : Cx p s m args meth c cX2_meet 6 (some .int) RX2 wsX2_meet D cy A) (q : Int32 × ST) : ∀ (σ : ST) (x1 : Int32) (x2 : Int32) (x3 : Int32) (x4 : Int32), ∀ (H : Heap) (locs : List Loc), va_P D vwCl (cw cy ad σ) H → va_D A (cw cy ad σ) → va_S A s.heap H locs → ∀ ls : Array Slot, lv_has ls 6 [(0, .ref (ad 0 0)), (1, .int x1), (2, .int x2), (3, .int x3), (4, .int x4)] → kX2_meet_26 (σ, x1, x2, x3, x4) = some q → W p l e rmX2_meet s m args below meth c H locs 0 0 (MQ below (zQi D (cw cy ad q.2) A q.1) args s 0 0 A) (F0 m 26 ls []) := by
  obtain ⟨hx, hb, hml, hown, hts, hr, hlocks, hK, hA⟩ := id C
  intro σ x1 x2 x3 x4 H locs hP hD hS ls hl hm
  have hm : bkX2_meet_26  σ x1 x2 x3 x4 = some q := hm
  unfold bkX2_meet_26 at hm
  refine lv_aload_n hx hb dX2_meet_26 rfl (lv_at hl 0 rfl) ?_
  refine lv_iload_n hx hb dX2_meet_27 rfl (lv_at hl 1 rfl) ?_
  refine lv_iload_n hx hb dX2_meet_28 rfl (lv_at hl 2 rfl) ?_
  refine lv_iload_n hx hb dX2_meet_29 rfl (lv_at hl 3 rfl) ?_
  obtain ⟨q_1, hq_1, hm⟩ := ob hm
  refine zc_i (zr_V [.int x1, .int x2, .int x3] [] ⟨hx, hb, hml, hown, hts⟩ (ctX2_takeCheapest l D cy ad σ  x1 x2 x3 q_1 hq_1 _) (cwV 3 hts gX2_meet_X2_takeCheapest rfl rfl rfl (by decide +kernel) ⟨Nat.le_of_ble_eq_true rfl, Nat.le_of_ble_eq_true rfl⟩) hK hP hD 0 cw_0 rfl rfl rfl hl.1 rfl (Nat.le_of_ble_eq_true rfl) dX2_meet_30 ⟨Nat.zero_le _, Nat.zero_le _⟩) hD hS hA (fun H locs hP hD hS => ?_)
  refine lv_istore (lv' := [(5, .int q_1.1), (0, .ref (ad 0 0)), (1, .int x1), (2, .int x2), (3, .int x3), (4, .int x4)]) hx hb dX2_meet_33 hl (by decide) rfl (fun ls hl => ?_)
  refine lv_iload hx hb dX2_meet_35 (lv_at hl 5 rfl) ?_
  refine lv_iconst (v := -1) hx hb dX2_meet_37 (by decide) ?_
  refine lv_icmp_ne (tgt := 52) hx hb dX2_meet_38 (by decide) (fun c_2 => ?_) (fun c_2 => ?_)
  · have hm := ifn c_2 hm
    refine lv_iload hx hb dX2_meet_52 (lv_at hl 0 rfl) ?_
    refine lv_if_eq (tgt := 67) hx hb dX2_meet_54 (by decide) (fun c_3 => ?_) (fun c_3 => ?_)
    · have hm := ifp c_3 hm
      refine lv_iconst (v := -1) hx hb dX2_meet_67 (by decide) ?_
      exact z_i hx hb hr hlocks hm hP hD hS dX2_meet_68
    · have hm := ifn c_3 hm
      refine lv_aload_n hx hb dX2_meet_57 rfl (lv_at hl 1 rfl) ?_
      refine va_get (D := D) (ci := 2) (v := .ref (ad 5 0)) (C := RX2) (T := TX2) (N := 9) hx hb hts iwX2_meet_X2 hown hK.1 hP 0 cw_0 rfl 8 (by decide) (hts _ lkX2_meet_40) (fun _ h9 => h9) rfl dX2_meet_58 ?_
      refine lv_iload hx hb dX2_meet_61 (lv_at hl 5 rfl) ?_
      obtain ⟨h_4, hm⟩ := gd_some hm
      refine va_iald hx hb hK.1 hP 5 0 cw_5 rfl (inb_vp h_4) dX2_meet_63 ?_
      refine lv_goto (tgt := 68) hx hb dX2_meet_64 (by decide) ?_
      exact z_i hx hb hr hlocks hm hP hD hS dX2_meet_68
  · have hm := ifp c_2 hm
    refine lv_iload hx hb dX2_meet_41 (lv_at hl 0 rfl) ?_
    refine lv_if_eq (tgt := 50) hx hb dX2_meet_43 (by decide) (fun c_5 => ?_) (fun c_5 => ?_)
    · have hm := ifp c_5 hm
      refine lv_iconst (v := 0) hx hb dX2_meet_50 (by decide) ?_
      exact z_i hx hb hr hlocks hm hP hD hS dX2_meet_51
    · have hm := ifn c_5 hm
      refine lv_iconst (v := 1) hx hb dX2_meet_46 (by decide) ?_
      refine lv_goto (tgt := 51) hx hb dX2_meet_47 (by decide) ?_
      exact z_i hx hb hr hlocks hm hP hD hS dX2_meet_51
def mX2_meet (σ : ST) (a1 : Int32) (a2 : Int32) (a3 : Int32) (a4 : Int32) : Option (Int32 × ST) := (mX2_canAsk a1 a2 a3).bind fun q_6 => if q_6 = (0 : Int32) then (some ((-1 : Int32), σ)) else (if a4 = (-1 : Int32) then (kX2_meet_26 (σ, a1, a2, a3, a4)) else ((mX2_has σ a4).bind fun q_9 => if q_9 = (0 : Int32) then (some ((-1 : Int32), σ)) else (kX2_meet_26 (σ, a1, a2, a3, a4))))
set_option maxHeartbeats 4000000 in
set_option maxRecDepth 100000 in
theorem ctX2_meet (l : Launch) (D : va_G) (cy : Nat → ClassId) (ad : Nat → Nat → Nat) (σ : ST) (a1 : Int32) (a2 : Int32) (a3 : Int32) (a4 : Int32) (q : Int32 × ST) (hm : mX2_meet σ a1 a2 a3 a4 = some q) : zMi l yX2_meet wsX2_meet rmX2_meet D cy [.ref (ad 0 0), .int a1, .int a2, .int a3, .int a4] (cw cy ad σ) q.1 (cw cy ad q.2) := by
  intro sz
  refine Met.ofW (cc := cX2_meet) (maxL := 6) (ret := (some .int)) (by decide) rfl ?_
  intro p e s m args below meth c s₁ B hml hv
  obtain ⟨rfl, hsz, hP, hK, hD0⟩ := hv
  have hx := B.exec
  have hb := B.bytes
  have hr := B.returns
  have hts := atoms_spec (ws := wsX2_meet) B.pre
  have hown : s.vm.findClass RX2 = some m.cls := findClass_of_methodNamed B.named
  have hlocks := B.notSynchronized
  subst hsz
  have hD := hD0.self (sz := s.heap.size)
  generalize hAe : va_A (cw cy ad σ) s.heap.size = A at hD ⊢
  have hA : ∀ q : Nat, s.heap.size ≤ q → A q := fun q h => by rw [← hAe]; exact Or.inr h
  have hS : va_S A s.heap s.heap [] := va_S.rf
  have C : Cx p s m _ meth c cX2_meet 6 (some .int) RX2 wsX2_meet D cy A := ⟨hx, hb, hml, hown, hts, hr, hlocks, hK, hA⟩
  have hl := lv_entry ([.ref (ad 0 0), .int a1, .int a2, .int a3, .int a4]) (n := 6) (Nat.le_of_ble_eq_true rfl)
  rw [lg_entry_eq]
  generalize (lg_sl ([.ref (ad 0 0), .int a1, .int a2, .int a3, .int a4]) ++ List.replicate (6 - (lg_sl ([.ref (ad 0 0), .int a1, .int a2, .int a3, .int a4])).length) Slot.unset).toArray = ls at hl ⊢
  have hl : lv_has ls 6 [(0, .ref (ad 0 0)), (1, .int a1), (2, .int a2), (3, .int a3), (4, .int a4)] := hl
  unfold mX2_meet at hm
  refine lv_iload_n hx hb dX2_meet_0 rfl (lv_at hl 1 rfl) ?_
  refine lv_iload_n hx hb dX2_meet_1 rfl (lv_at hl 2 rfl) ?_
  refine lv_iload_n hx hb dX2_meet_2 rfl (lv_at hl 3 rfl) ?_
  obtain ⟨q_6, hq_6, hm⟩ := ob hm
  refine zc_i (zr_S [.int a1, .int a2, .int a3] [] ⟨hx, hb, hml, hown, hts⟩ (ctX2_canAsk l D cy (cw cy ad σ)  a1 a2 a3 q_6 hq_6 _) (va_cwS 3 hts gX2_meet_X2_canAsk rfl rfl rfl (by decide +kernel) ⟨Nat.le_of_ble_eq_true rfl, Nat.le_of_ble_eq_true rfl⟩) hK hP hD rfl hl.1 rfl (Nat.le_of_ble_eq_true rfl) dX2_meet_3 ⟨Nat.zero_le _, Nat.zero_le _⟩) hD hS hA (fun H locs hP hD hS => ?_)
  refine lv_if_eq (tgt := 24) hx hb dX2_meet_6 (by decide) (fun c_7 => ?_) (fun c_7 => ?_)
  · have hm := ifp c_7 hm
    refine lv_iconst (v := -1) hx hb dX2_meet_24 (by decide) ?_
    exact z_i hx hb hr hlocks hm hP hD hS dX2_meet_25
  · have hm := ifn c_7 hm
    refine lv_iload hx hb dX2_meet_9 (lv_at hl 4 rfl) ?_
    refine lv_iconst (v := -1) hx hb dX2_meet_11 (by decide) ?_
    refine lv_icmp_eq (tgt := 26) hx hb dX2_meet_12 (by decide) (fun c_8 => ?_) (fun c_8 => ?_)
    · have hm := ifp c_8 hm
      exact kX2_meet_26_ok C q σ a1 a2 a3 a4 _ _ hP hD hS _ (lv_sub hl [0, 1, 2, 3, 4] rfl) hm
    · have hm := ifn c_8 hm
      refine lv_aload_n hx hb dX2_meet_15 rfl (lv_at hl 0 rfl) ?_
      refine lv_iload hx hb dX2_meet_16 (lv_at hl 4 rfl) ?_
      obtain ⟨q_9, hq_9, hm⟩ := ob hm
      refine zc_i (zr_V [.int a4] [] ⟨hx, hb, hml, hown, hts⟩ (ctX2_has l D cy ad σ  a4 q_9 hq_9 _) (cwV 1 hts gX2_meet_X2_has rfl rfl rfl (by decide +kernel) ⟨Nat.le_of_ble_eq_true rfl, Nat.le_of_ble_eq_true rfl⟩) hK hP hD 0 cw_0 rfl rfl rfl hl.1 rfl (Nat.le_of_ble_eq_true rfl) dX2_meet_18 ⟨Nat.zero_le _, Nat.zero_le _⟩) hD hS hA (fun H locs hP hD hS => ?_)
      refine lv_if_ne (tgt := 26) hx hb dX2_meet_21 (by decide) (fun c_10 => ?_) (fun c_10 => ?_)
      · have hm := ifn c_10 hm
        exact kX2_meet_26_ok C q σ a1 a2 a3 a4 _ _ hP hD hS _ (lv_sub hl [0, 1, 2, 3, 4] rfl) hm
      · have hm := ifp c_10 hm
        refine lv_iconst (v := -1) hx hb dX2_meet_24 (by decide) ?_
        exact z_i hx hb hr hlocks hm hP hD hS dX2_meet_25
abbrev rmX2_tree : Room := { frames := 2, cells := 0, slots := 0, locals := 42 }
theorem lkX2_tree_182 : Cond.constant RX2 182 (-1000000) ∈ wsX2_tree := by decide +kernel
theorem lkX2_tree_183 : Cond.constant RX2 183 (1000000) ∈ wsX2_tree := by decide +kernel
theorem lkX2_tree_184 : Cond.constant RX2 184 (999999999) ∈ wsX2_tree := by decide +kernel
theorem lkX2_tree_28 : Cond.fieldLink RX2 28 "DeliveryBasket" "lattice" "LDeliveryBasket$Lattice;" ∈ wsX2_tree := by decide +kernel
theorem iwX2_tree_X2 : ∀ w ∈ wsX20, w ∈ wsX2_tree := fun _ h => List.mem_cons_of_mem _ (List.mem_append_left _ (List.mem_append_right _ h))
def mX2_tree (σ : ST) (a1 : Int32) (a2 : Int32) (a3 : Int32) (a4 : Int32) (a5 : Int32) : Option (Int32 × ST) := (mX2_within a1 (0 : Int32) (20 : Int32)).bind fun q_1 => if q_1 = (0 : Int32) then (some ((0 : Int32), σ)) else ((mX2_isRate a2).bind fun q_3 => if q_3 = (0 : Int32) then (some ((0 : Int32), σ)) else ((mX2_within a3 (0 : Int32) (50 : Int32)).bind fun q_5 => if q_5 = (0 : Int32) then (some ((0 : Int32), σ)) else ((mX2_within a4 (-1000000 : Int32) (1000000 : Int32)).bind fun q_7 => if q_7 = (0 : Int32) then (some ((0 : Int32), σ)) else ((mX2_within a5 (0 : Int32) (999999999 : Int32)).bind fun q_9 => if q_9 = (0 : Int32) then (some ((0 : Int32), σ)) else ((mX1_change σ a1 a2 a3 a4 a5).bind fun q_11 => gd (zb q_11.1) (some (q_11.1, q_11.2)))))))
set_option maxHeartbeats 4000000 in
set_option maxRecDepth 100000 in
theorem ctX2_tree (l : Launch) (D : va_G) (cy : Nat → ClassId) (ad : Nat → Nat → Nat) (σ : ST) (a1 : Int32) (a2 : Int32) (a3 : Int32) (a4 : Int32) (a5 : Int32) (q : Int32 × ST) (hm : mX2_tree σ a1 a2 a3 a4 a5 = some q) : zMi l yX2_tree wsX2_tree rmX2_tree D cy [.ref (ad 0 0), .int a1, .int a2, .int a3, .int a4, .int a5] (cw cy ad σ) q.1 (cw cy ad q.2) := by
  intro sz
  refine Met.ofW (cc := cX2_tree) (maxL := 6) (ret := (some .boolean)) (by decide) rfl ?_
  intro p e s m args below meth c s₁ B hml hv
  obtain ⟨rfl, hsz, hP, hK, hD0⟩ := hv
  have hx := B.exec
  have hb := B.bytes
  have hr := B.returns
  have hts := atoms_spec (ws := wsX2_tree) B.pre
  have hown : s.vm.findClass RX2 = some m.cls := findClass_of_methodNamed B.named
  have hlocks := B.notSynchronized
  subst hsz
  have hD := hD0.self (sz := s.heap.size)
  generalize hAe : va_A (cw cy ad σ) s.heap.size = A at hD ⊢
  have hA : ∀ q : Nat, s.heap.size ≤ q → A q := fun q h => by rw [← hAe]; exact Or.inr h
  have hS : va_S A s.heap s.heap [] := va_S.rf
  have C : Cx p s m _ meth c cX2_tree 6 (some .boolean) RX2 wsX2_tree D cy A := ⟨hx, hb, hml, hown, hts, hr, hlocks, hK, hA⟩
  have hl := lv_entry ([.ref (ad 0 0), .int a1, .int a2, .int a3, .int a4, .int a5]) (n := 6) (Nat.le_of_ble_eq_true rfl)
  rw [lg_entry_eq]
  generalize (lg_sl ([.ref (ad 0 0), .int a1, .int a2, .int a3, .int a4, .int a5]) ++ List.replicate (6 - (lg_sl ([.ref (ad 0 0), .int a1, .int a2, .int a3, .int a4, .int a5])).length) Slot.unset).toArray = ls at hl ⊢
  have hl : lv_has ls 6 [(0, .ref (ad 0 0)), (1, .int a1), (2, .int a2), (3, .int a3), (4, .int a4), (5, .int a5)] := hl
  unfold mX2_tree at hm
  refine lv_iload_n hx hb dX2_tree_0 rfl (lv_at hl 1 rfl) ?_
  refine lv_iconst (v := 0) hx hb dX2_tree_1 (by decide) ?_
  refine lv_bipush (v := 20) hx hb dX2_tree_2 (by decide) ?_
  obtain ⟨q_1, hq_1, hm⟩ := ob hm
  refine zc_i (zr_S [.int a1, .int (0 : Int32), .int (20 : Int32)] [] ⟨hx, hb, hml, hown, hts⟩ (ctX2_within l D cy (cw cy ad σ)  a1 (0 : Int32) (20 : Int32) q_1 hq_1 _) (va_cwS 3 hts gX2_tree_X2_within rfl rfl rfl (by decide +kernel) ⟨Nat.le_of_ble_eq_true rfl, Nat.le_of_ble_eq_true rfl⟩) hK hP hD rfl hl.1 rfl (Nat.le_of_ble_eq_true rfl) dX2_tree_4 ⟨Nat.zero_le _, Nat.zero_le _⟩) hD hS hA (fun H locs hP hD hS => ?_)
  refine lv_if_eq (tgt := 50) hx hb dX2_tree_7 (by decide) (fun c_2 => ?_) (fun c_2 => ?_)
  · have hm := ifp c_2 hm
    refine lv_iconst (v := 0) hx hb dX2_tree_50 (by decide) ?_
    exact z_z hx hb hr hlocks (by decide) hm hP hD hS dX2_tree_51
  · have hm := ifn c_2 hm
    refine lv_iload_n hx hb dX2_tree_10 rfl (lv_at hl 2 rfl) ?_
    obtain ⟨q_3, hq_3, hm⟩ := ob hm
    refine zc_i (zr_S [.int a2] [] ⟨hx, hb, hml, hown, hts⟩ (ctX2_isRate l D cy (cw cy ad σ)  a2 q_3 hq_3 _) (va_cwS 1 hts gX2_tree_X2_isRate rfl rfl rfl (by decide +kernel) ⟨Nat.le_of_ble_eq_true rfl, Nat.le_of_ble_eq_true rfl⟩) hK hP hD rfl hl.1 rfl (Nat.le_of_ble_eq_true rfl) dX2_tree_11 ⟨Nat.zero_le _, Nat.zero_le _⟩) hD hS hA (fun H locs hP hD hS => ?_)
    refine lv_if_eq (tgt := 50) hx hb dX2_tree_14 (by decide) (fun c_4 => ?_) (fun c_4 => ?_)
    · have hm := ifp c_4 hm
      refine lv_iconst (v := 0) hx hb dX2_tree_50 (by decide) ?_
      exact z_z hx hb hr hlocks (by decide) hm hP hD hS dX2_tree_51
    · have hm := ifn c_4 hm
      refine lv_iload_n hx hb dX2_tree_17 rfl (lv_at hl 3 rfl) ?_
      refine lv_iconst (v := 0) hx hb dX2_tree_18 (by decide) ?_
      refine lv_bipush (v := 50) hx hb dX2_tree_19 (by decide) ?_
      obtain ⟨q_5, hq_5, hm⟩ := ob hm
      refine zc_i (zr_S [.int a3, .int (0 : Int32), .int (50 : Int32)] [] ⟨hx, hb, hml, hown, hts⟩ (ctX2_within l D cy (cw cy ad σ)  a3 (0 : Int32) (50 : Int32) q_5 hq_5 _) (va_cwS 3 hts gX2_tree_X2_within rfl rfl rfl (by decide +kernel) ⟨Nat.le_of_ble_eq_true rfl, Nat.le_of_ble_eq_true rfl⟩) hK hP hD rfl hl.1 rfl (Nat.le_of_ble_eq_true rfl) dX2_tree_21 ⟨Nat.zero_le _, Nat.zero_le _⟩) hD hS hA (fun H locs hP hD hS => ?_)
      refine lv_if_eq (tgt := 50) hx hb dX2_tree_24 (by decide) (fun c_6 => ?_) (fun c_6 => ?_)
      · have hm := ifp c_6 hm
        refine lv_iconst (v := 0) hx hb dX2_tree_50 (by decide) ?_
        exact z_z hx hb hr hlocks (by decide) hm hP hD hS dX2_tree_51
      · have hm := ifn c_6 hm
        refine lv_iload hx hb dX2_tree_27 (lv_at hl 4 rfl) ?_
        refine lv_ldc (v := -1000000) hx hb hown (hts _ lkX2_tree_182) dX2_tree_29 ?_
        refine lv_ldc (v := 1000000) hx hb hown (hts _ lkX2_tree_183) dX2_tree_31 ?_
        obtain ⟨q_7, hq_7, hm⟩ := ob hm
        refine zc_i (zr_S [.int a4, .int (-1000000 : Int32), .int (1000000 : Int32)] [] ⟨hx, hb, hml, hown, hts⟩ (ctX2_within l D cy (cw cy ad σ)  a4 (-1000000 : Int32) (1000000 : Int32) q_7 hq_7 _) (va_cwS 3 hts gX2_tree_X2_within rfl rfl rfl (by decide +kernel) ⟨Nat.le_of_ble_eq_true rfl, Nat.le_of_ble_eq_true rfl⟩) hK hP hD rfl hl.1 rfl (Nat.le_of_ble_eq_true rfl) dX2_tree_33 ⟨Nat.zero_le _, Nat.zero_le _⟩) hD hS hA (fun H locs hP hD hS => ?_)
        refine lv_if_eq (tgt := 50) hx hb dX2_tree_36 (by decide) (fun c_8 => ?_) (fun c_8 => ?_)
        · have hm := ifp c_8 hm
          refine lv_iconst (v := 0) hx hb dX2_tree_50 (by decide) ?_
          exact z_z hx hb hr hlocks (by decide) hm hP hD hS dX2_tree_51
        · have hm := ifn c_8 hm
          refine lv_iload hx hb dX2_tree_39 (lv_at hl 5 rfl) ?_
          refine lv_iconst (v := 0) hx hb dX2_tree_41 (by decide) ?_
          refine lv_ldc (v := 999999999) hx hb hown (hts _ lkX2_tree_184) dX2_tree_42 ?_
          obtain ⟨q_9, hq_9, hm⟩ := ob hm
          refine zc_i (zr_S [.int a5, .int (0 : Int32), .int (999999999 : Int32)] [] ⟨hx, hb, hml, hown, hts⟩ (ctX2_within l D cy (cw cy ad σ)  a5 (0 : Int32) (999999999 : Int32) q_9 hq_9 _) (va_cwS 3 hts gX2_tree_X2_within rfl rfl rfl (by decide +kernel) ⟨Nat.le_of_ble_eq_true rfl, Nat.le_of_ble_eq_true rfl⟩) hK hP hD rfl hl.1 rfl (Nat.le_of_ble_eq_true rfl) dX2_tree_44 ⟨Nat.zero_le _, Nat.zero_le _⟩) hD hS hA (fun H locs hP hD hS => ?_)
          refine lv_if_ne (tgt := 52) hx hb dX2_tree_47 (by decide) (fun c_10 => ?_) (fun c_10 => ?_)
          · have hm := ifn c_10 hm
            refine lv_aload_n hx hb dX2_tree_52 rfl (lv_at hl 0 rfl) ?_
            refine va_get (D := D) (ci := 2) (v := .ref (ad 2 0)) (C := RX2) (T := TX2) (N := 9) hx hb hts iwX2_tree_X2 hown hK.1 hP 0 cw_0 rfl 5 (by decide) (hts _ lkX2_tree_28) (fun _ h9 => h9) rfl dX2_tree_53 ?_
            refine lv_iload_n hx hb dX2_tree_56 rfl (lv_at hl 1 rfl) ?_
            refine lv_iload_n hx hb dX2_tree_57 rfl (lv_at hl 2 rfl) ?_
            refine lv_iload_n hx hb dX2_tree_58 rfl (lv_at hl 3 rfl) ?_
            refine lv_iload hx hb dX2_tree_59 (lv_at hl 4 rfl) ?_
            refine lv_iload hx hb dX2_tree_61 (lv_at hl 5 rfl) ?_
            obtain ⟨q_11, hq_11, hm⟩ := ob hm
            refine zc_i (zr_V [.int a1, .int a2, .int a3, .int a4, .int a5] [] ⟨hx, hb, hml, hown, hts⟩ (ctX1_change l D cy ad σ  a1 a2 a3 a4 a5 q_11 hq_11 _) (cwV 5 hts gX2_tree_X1_change rfl rfl rfl (by decide +kernel) ⟨Nat.le_of_ble_eq_true rfl, Nat.le_of_ble_eq_true rfl⟩) hK hP hD 2 cw_2 rfl rfl rfl hl.1 rfl (Nat.le_of_ble_eq_true rfl) dX2_tree_63 ⟨Nat.zero_le _, Nat.zero_le _⟩) hD hS hA (fun H locs hP hD hS => ?_)
            obtain ⟨h_12, hm⟩ := gd_some hm
            exact z_z hx hb hr hlocks h_12 hm hP hD hS dX2_tree_66
          · have hm := ifp c_10 hm
            refine lv_iconst (v := 0) hx hb dX2_tree_50 (by decide) ?_
            exact z_z hx hb hr hlocks (by decide) hm hP hD hS dX2_tree_51
abbrev rmX2_rate : Room := { frames := 3, cells := 0, slots := 0, locals := 65 }
theorem lkX2_rate_28 : Cond.fieldLink RX2 28 "DeliveryBasket" "lattice" "LDeliveryBasket$Lattice;" ∈ wsX2_rate := by decide +kernel
theorem iwX2_rate_X2 : ∀ w ∈ wsX20, w ∈ wsX2_rate := fun _ h => List.mem_cons_of_mem _ (List.mem_append_left _ (List.mem_append_right _ h))
def mX2_rate (σ : ST) (a1 : Int32) (a2 : Int32) : Option (Int32) := (mX1_hasNode σ a1 a2).bind fun q_1 => if q_1 = (0 : Int32) then (some (-1 : Int32)) else ((mX1_level σ a1 a2).bind fun q_3 => (mX1_rateAt σ q_3).bind fun q_4 => some q_4)
set_option maxHeartbeats 4000000 in
set_option maxRecDepth 100000 in
theorem ctX2_rate (l : Launch) (D : va_G) (cy : Nat → ClassId) (ad : Nat → Nat → Nat) (σ : ST) (a1 : Int32) (a2 : Int32) (q : Int32) (hm : mX2_rate σ a1 a2 = some q) : zMi l yX2_rate wsX2_rate rmX2_rate D cy [.ref (ad 0 0), .int a1, .int a2] (cw cy ad σ) q (cw cy ad σ) := by
  intro sz
  refine Met.ofW (cc := cX2_rate) (maxL := 3) (ret := (some .int)) (by decide) rfl ?_
  intro p e s m args below meth c s₁ B hml hv
  obtain ⟨rfl, hsz, hP, hK, hD0⟩ := hv
  have hx := B.exec
  have hb := B.bytes
  have hr := B.returns
  have hts := atoms_spec (ws := wsX2_rate) B.pre
  have hown : s.vm.findClass RX2 = some m.cls := findClass_of_methodNamed B.named
  have hlocks := B.notSynchronized
  subst hsz
  have hD := hD0.self (sz := s.heap.size)
  generalize hAe : va_A (cw cy ad σ) s.heap.size = A at hD ⊢
  have hA : ∀ q : Nat, s.heap.size ≤ q → A q := fun q h => by rw [← hAe]; exact Or.inr h
  have hS : va_S A s.heap s.heap [] := va_S.rf
  have C : Cx p s m _ meth c cX2_rate 3 (some .int) RX2 wsX2_rate D cy A := ⟨hx, hb, hml, hown, hts, hr, hlocks, hK, hA⟩
  have hl := lv_entry ([.ref (ad 0 0), .int a1, .int a2]) (n := 3) (Nat.le_of_ble_eq_true rfl)
  rw [lg_entry_eq]
  generalize (lg_sl ([.ref (ad 0 0), .int a1, .int a2]) ++ List.replicate (3 - (lg_sl ([.ref (ad 0 0), .int a1, .int a2])).length) Slot.unset).toArray = ls at hl ⊢
  have hl : lv_has ls 3 [(0, .ref (ad 0 0)), (1, .int a1), (2, .int a2)] := hl
  unfold mX2_rate at hm
  refine lv_aload_n hx hb dX2_rate_0 rfl (lv_at hl 0 rfl) ?_
  refine va_get (D := D) (ci := 2) (v := .ref (ad 2 0)) (C := RX2) (T := TX2) (N := 9) hx hb hts iwX2_rate_X2 hown hK.1 hP 0 cw_0 rfl 5 (by decide) (hts _ lkX2_rate_28) (fun _ h9 => h9) rfl dX2_rate_1 ?_
  refine lv_iload_n hx hb dX2_rate_4 rfl (lv_at hl 1 rfl) ?_
  refine lv_iload_n hx hb dX2_rate_5 rfl (lv_at hl 2 rfl) ?_
  obtain ⟨q_1, hq_1, hm⟩ := ob hm
  refine zc_i (zr_V [.int a1, .int a2] [] ⟨hx, hb, hml, hown, hts⟩ (ctX1_hasNode l D cy ad σ  a1 a2 q_1 hq_1 _) (cwV 2 hts gX2_rate_X1_hasNode rfl rfl rfl (by decide +kernel) ⟨Nat.le_of_ble_eq_true rfl, Nat.le_of_ble_eq_true rfl⟩) hK hP hD 2 cw_2 rfl rfl rfl hl.1 rfl (Nat.le_of_ble_eq_true rfl) dX2_rate_6 ⟨Nat.zero_le _, Nat.zero_le _⟩) hD hS hA (fun H locs hP hD hS => ?_)
  refine lv_if_eq (tgt := 31) hx hb dX2_rate_9 (by decide) (fun c_2 => ?_) (fun c_2 => ?_)
  · have hm := ifp c_2 hm
    refine lv_iconst (v := -1) hx hb dX2_rate_31 (by decide) ?_
    exact z_pi hx hb hr hlocks hm hP hD hS dX2_rate_32
  · have hm := ifn c_2 hm
    refine lv_aload_n hx hb dX2_rate_12 rfl (lv_at hl 0 rfl) ?_
    refine va_get (D := D) (ci := 2) (v := .ref (ad 2 0)) (C := RX2) (T := TX2) (N := 9) hx hb hts iwX2_rate_X2 hown hK.1 hP 0 cw_0 rfl 5 (by decide) (hts _ lkX2_rate_28) (fun _ h9 => h9) rfl dX2_rate_13 ?_
    refine lv_aload_n hx hb dX2_rate_16 rfl (lv_at hl 0 rfl) ?_
    refine va_get (D := D) (ci := 2) (v := .ref (ad 2 0)) (C := RX2) (T := TX2) (N := 9) hx hb hts iwX2_rate_X2 hown hK.1 hP 0 cw_0 rfl 5 (by decide) (hts _ lkX2_rate_28) (fun _ h9 => h9) rfl dX2_rate_17 ?_
    refine lv_iload_n hx hb dX2_rate_20 rfl (lv_at hl 1 rfl) ?_
    refine lv_iload_n hx hb dX2_rate_21 rfl (lv_at hl 2 rfl) ?_
    obtain ⟨q_3, hq_3, hm⟩ := ob hm
    refine zc_i (zr_V [.int a1, .int a2] [.ref (ad 2 0)] ⟨hx, hb, hml, hown, hts⟩ (ctX1_level l D cy ad σ  a1 a2 q_3 hq_3 _) (cwV 2 hts gX2_rate_X1_level rfl rfl rfl (by decide +kernel) ⟨Nat.le_of_ble_eq_true rfl, Nat.le_of_ble_eq_true rfl⟩) hK hP hD 2 cw_2 rfl rfl rfl hl.1 rfl (Nat.le_of_ble_eq_true rfl) dX2_rate_22 ⟨Nat.zero_le _, Nat.zero_le _⟩) hD hS hA (fun H locs hP hD hS => ?_)
    obtain ⟨q_4, hq_4, hm⟩ := ob hm
    refine zc_i (zr_V [.int q_3] [] ⟨hx, hb, hml, hown, hts⟩ (ctX1_rateAt l D cy ad σ  q_3 q_4 hq_4 _) (cwV 1 hts gX2_rate_X1_rateAt rfl rfl rfl (by decide +kernel) ⟨Nat.le_of_ble_eq_true rfl, Nat.le_of_ble_eq_true rfl⟩) hK hP hD 2 cw_2 rfl rfl rfl hl.1 rfl (Nat.le_of_ble_eq_true rfl) dX2_rate_25 ⟨Nat.zero_le _, Nat.zero_le _⟩) hD hS hA (fun H locs hP hD hS => ?_)
    refine lv_goto (tgt := 32) hx hb dX2_rate_28 (by decide) ?_
    exact z_pi hx hb hr hlocks hm hP hD hS dX2_rate_32
abbrev rmX2_valueBy : Room := { frames := 4, cells := 0, slots := 0, locals := 92 }
theorem lkX2_valueBy_28 : Cond.fieldLink RX2 28 "DeliveryBasket" "lattice" "LDeliveryBasket$Lattice;" ∈ wsX2_valueBy := by decide +kernel
theorem iwX2_valueBy_X2 : ∀ w ∈ wsX20, w ∈ wsX2_valueBy := fun _ h => List.mem_cons_of_mem _ (List.mem_append_left _ (List.mem_append_left _ (List.mem_append_right _ h)))
theorem lkX2_valueBy_11 : Cond.fieldLink RX2 11 "DeliveryBasket" "bonds" "[LDeliveryBasket$Bond;" ∈ wsX2_valueBy := by decide +kernel
theorem lkX2_valueBy_44 : Cond.fieldLink RX2 44 "DeliveryBasket" "size" "I" ∈ wsX2_valueBy := by decide +kernel
theorem lkX2_valueBy_141 : Cond.fieldLink RX2 141 "DeliveryBasket$Lattice" "agreed" "I" ∈ wsX2_valueBy := by decide +kernel
theorem iwX2_valueBy_X1 : ∀ w ∈ wsX10, w ∈ wsX2_valueBy := fun _ h => List.mem_cons_of_mem _ (List.mem_append_left _ (List.mem_append_right _ h))
theorem lkX2_valueBy_129 : Cond.fieldLink RX2 129 "DeliveryBasket$Lattice" "days" "I" ∈ wsX2_valueBy := by decide +kernel
def mX2_valueBy (σ : ST) (a1 : Int32) : Option (Int64 × ST) := (mX1_layPrices σ (gI σ 0 0 1)).bind fun q_1 => (mX1_layNow q_1 a1 (gI q_1 1 0 4)).bind fun q_2 => (mX1_rollBack q_2 (gI q_2 1 0 0) (1 : Int32)).bind fun q_3 => some (q_3.1, q_3.2)
set_option maxHeartbeats 4000000 in
set_option maxRecDepth 100000 in
theorem ctX2_valueBy (l : Launch) (D : va_G) (cy : Nat → ClassId) (ad : Nat → Nat → Nat) (σ : ST) (a1 : Int32) (q : Int64 × ST) (hm : mX2_valueBy σ a1 = some q) : zMl l yX2_valueBy wsX2_valueBy rmX2_valueBy D cy [.ref (ad 0 0), .int a1] (cw cy ad σ) q.1 (cw cy ad q.2) := by
  intro sz
  refine Met.ofW (cc := cX2_valueBy) (maxL := 2) (ret := (some .long)) (by decide) rfl ?_
  intro p e s m args below meth c s₁ B hml hv
  obtain ⟨rfl, hsz, hP, hK, hD0⟩ := hv
  have hx := B.exec
  have hb := B.bytes
  have hr := B.returns
  have hts := atoms_spec (ws := wsX2_valueBy) B.pre
  have hown : s.vm.findClass RX2 = some m.cls := findClass_of_methodNamed B.named
  have hlocks := B.notSynchronized
  subst hsz
  have hD := hD0.self (sz := s.heap.size)
  generalize hAe : va_A (cw cy ad σ) s.heap.size = A at hD ⊢
  have hA : ∀ q : Nat, s.heap.size ≤ q → A q := fun q h => by rw [← hAe]; exact Or.inr h
  have hS : va_S A s.heap s.heap [] := va_S.rf
  have C : Cx p s m _ meth c cX2_valueBy 2 (some .long) RX2 wsX2_valueBy D cy A := ⟨hx, hb, hml, hown, hts, hr, hlocks, hK, hA⟩
  have hl := lv_entry ([.ref (ad 0 0), .int a1]) (n := 2) (Nat.le_of_ble_eq_true rfl)
  rw [lg_entry_eq]
  generalize (lg_sl ([.ref (ad 0 0), .int a1]) ++ List.replicate (2 - (lg_sl ([.ref (ad 0 0), .int a1])).length) Slot.unset).toArray = ls at hl ⊢
  have hl : lv_has ls 2 [(0, .ref (ad 0 0)), (1, .int a1)] := hl
  unfold mX2_valueBy at hm
  refine lv_aload_n hx hb dX2_valueBy_0 rfl (lv_at hl 0 rfl) ?_
  refine va_get (D := D) (ci := 2) (v := .ref (ad 2 0)) (C := RX2) (T := TX2) (N := 9) hx hb hts iwX2_valueBy_X2 hown hK.1 hP 0 cw_0 rfl 5 (by decide) (hts _ lkX2_valueBy_28) (fun _ h9 => h9) rfl dX2_valueBy_1 ?_
  refine lv_aload_n hx hb dX2_valueBy_4 rfl (lv_at hl 0 rfl) ?_
  refine va_get (D := D) (ci := 2) (v := .ref (ad 1 0)) (C := RX2) (T := TX2) (N := 9) hx hb hts iwX2_valueBy_X2 hown hK.1 hP 0 cw_0 rfl 0 (by decide) (hts _ lkX2_valueBy_11) (fun _ h9 => h9) rfl dX2_valueBy_5 ?_
  refine lv_aload_n hx hb dX2_valueBy_8 rfl (lv_at hl 0 rfl) ?_
  refine va_get (D := D) (ci := 2) (v := .int (gI σ 0 0 1)) (C := RX2) (T := TX2) (N := 9) hx hb hts iwX2_valueBy_X2 hown hK.1 hP 0 cw_0 rfl 1 (by decide) (hts _ lkX2_valueBy_44) (fun _ h9 => h9) rfl dX2_valueBy_9 ?_
  obtain ⟨q_1, hq_1, hm⟩ := ob hm
  refine zc_v (zr_V [.ref (ad 1 0), .int (gI σ 0 0 1)] [] ⟨hx, hb, hml, hown, hts⟩ (ctX1_layPrices l D cy ad σ  (gI σ 0 0 1) q_1 hq_1 _) (cwV 2 hts gX2_valueBy_X1_layPrices rfl rfl rfl (by decide +kernel) ⟨Nat.le_of_ble_eq_true rfl, Nat.le_of_ble_eq_true rfl⟩) hK hP hD 2 cw_2 rfl rfl rfl hl.1 rfl (Nat.le_of_ble_eq_true rfl) dX2_valueBy_12 ⟨Nat.zero_le _, Nat.zero_le _⟩) hD hS hA (fun H locs hP hD hS => ?_)
  refine lv_aload_n hx hb dX2_valueBy_15 rfl (lv_at hl 0 rfl) ?_
  refine va_get (D := D) (ci := 2) (v := .ref (ad 2 0)) (C := RX2) (T := TX2) (N := 9) hx hb hts iwX2_valueBy_X2 hown hK.1 hP 0 cw_0 rfl 5 (by decide) (hts _ lkX2_valueBy_28) (fun _ h9 => h9) rfl dX2_valueBy_16 ?_
  refine lv_aload_n hx hb dX2_valueBy_19 rfl (lv_at hl 0 rfl) ?_
  refine va_get (D := D) (ci := 2) (v := .ref (ad 1 0)) (C := RX2) (T := TX2) (N := 9) hx hb hts iwX2_valueBy_X2 hown hK.1 hP 0 cw_0 rfl 0 (by decide) (hts _ lkX2_valueBy_11) (fun _ h9 => h9) rfl dX2_valueBy_20 ?_
  refine lv_iload_n hx hb dX2_valueBy_23 rfl (lv_at hl 1 rfl) ?_
  refine lv_aload_n hx hb dX2_valueBy_24 rfl (lv_at hl 0 rfl) ?_
  refine va_get (D := D) (ci := 2) (v := .ref (ad 2 0)) (C := RX2) (T := TX2) (N := 9) hx hb hts iwX2_valueBy_X2 hown hK.1 hP 0 cw_0 rfl 5 (by decide) (hts _ lkX2_valueBy_28) (fun _ h9 => h9) rfl dX2_valueBy_25 ?_
  refine va_get (D := D) (ci := 1) (v := .int (gI q_1 1 0 4)) (C := RX1) (T := TX1) (N := 12) hx hb hts iwX2_valueBy_X1 hown hK.1 hP 2 cw_2 rfl 4 (by decide) (hts _ lkX2_valueBy_141) (fun _ h9 => h9) rfl dX2_valueBy_28 ?_
  obtain ⟨q_2, hq_2, hm⟩ := ob hm
  refine zc_v (zr_V [.ref (ad 1 0), .int a1, .int (gI q_1 1 0 4)] [] ⟨hx, hb, hml, hown, hts⟩ (ctX1_layNow l D cy ad q_1  a1 (gI q_1 1 0 4) q_2 hq_2 _) (cwV 3 hts gX2_valueBy_X1_layNow rfl rfl rfl (by decide +kernel) ⟨Nat.le_of_ble_eq_true rfl, Nat.le_of_ble_eq_true rfl⟩) hK hP hD 2 cw_2 rfl rfl rfl hl.1 rfl (Nat.le_of_ble_eq_true rfl) dX2_valueBy_31 ⟨Nat.zero_le _, Nat.zero_le _⟩) hD hS hA (fun H locs hP hD hS => ?_)
  refine lv_aload_n hx hb dX2_valueBy_34 rfl (lv_at hl 0 rfl) ?_
  refine va_get (D := D) (ci := 2) (v := .ref (ad 2 0)) (C := RX2) (T := TX2) (N := 9) hx hb hts iwX2_valueBy_X2 hown hK.1 hP 0 cw_0 rfl 5 (by decide) (hts _ lkX2_valueBy_28) (fun _ h9 => h9) rfl dX2_valueBy_35 ?_
  refine lv_aload_n hx hb dX2_valueBy_38 rfl (lv_at hl 0 rfl) ?_
  refine va_get (D := D) (ci := 2) (v := .ref (ad 2 0)) (C := RX2) (T := TX2) (N := 9) hx hb hts iwX2_valueBy_X2 hown hK.1 hP 0 cw_0 rfl 5 (by decide) (hts _ lkX2_valueBy_28) (fun _ h9 => h9) rfl dX2_valueBy_39 ?_
  refine va_get (D := D) (ci := 1) (v := .int (gI q_2 1 0 0)) (C := RX1) (T := TX1) (N := 12) hx hb hts iwX2_valueBy_X1 hown hK.1 hP 2 cw_2 rfl 0 (by decide) (hts _ lkX2_valueBy_129) (fun _ h9 => h9) rfl dX2_valueBy_42 ?_
  refine lv_iconst (v := 1) hx hb dX2_valueBy_45 (by decide) ?_
  obtain ⟨q_3, hq_3, hm⟩ := ob hm
  refine zc_l (zr_V [.int (gI q_2 1 0 0), .int (1 : Int32)] [] ⟨hx, hb, hml, hown, hts⟩ (ctX1_rollBack l D cy ad q_2  (gI q_2 1 0 0) (1 : Int32) q_3 hq_3 _) (cwV 2 hts gX2_valueBy_X1_rollBack rfl rfl rfl (by decide +kernel) ⟨Nat.le_of_ble_eq_true rfl, Nat.le_of_ble_eq_true rfl⟩) hK hP hD 2 cw_2 rfl rfl rfl hl.1 rfl (Nat.le_of_ble_eq_true rfl) dX2_valueBy_46 ⟨Nat.zero_le _, Nat.zero_le _⟩) hD hS hA (fun H locs hP hD hS => ?_)
  exact z_l hx hb hr hlocks hm hP hD hS dX2_valueBy_49
abbrev rmX2_act : Room := { frames := 5, cells := 0, slots := 0, locals := 113 }
theorem lkX2_act_28 : Cond.fieldLink RX2 28 "DeliveryBasket" "lattice" "LDeliveryBasket$Lattice;" ∈ wsX2_act := by decide +kernel
theorem iwX2_act_X2 : ∀ w ∈ wsX20, w ∈ wsX2_act := fun _ h => List.mem_cons_of_mem _ (List.mem_append_left _ (List.mem_append_left _ (List.mem_append_right _ h)))
theorem lkX2_act_208 : Cond.fieldLink RX2 208 "DeliveryBasket$Lattice" "acts" "[[I" ∈ wsX2_act := by decide +kernel
theorem iwX2_act_X1 : ∀ w ∈ wsX10, w ∈ wsX2_act := fun _ h => List.mem_cons_of_mem _ (List.mem_append_left _ (List.mem_append_right _ h))
def mX2_act (σ : ST) (a1 : Int32) (a2 : Int32) : Option (Int32 × ST) := (mX2_eligibleBits σ).bind fun q_1 => (mX1_hasNode σ a1 a2).bind fun q_2 => if q_2 = (0 : Int32) then (some ((-1 : Int32), σ)) else (if q_1 = (0 : Int32) then (some ((-1 : Int32), σ)) else ((mX2_valueBy σ q_1).bind fun q_5 => gd (inb a1 21) (gd (inb a2 21) (some ((gI q_5.2 6 (Int32.toNatClampNeg a1) (Int32.toNatClampNeg a2)), q_5.2)))))
set_option maxHeartbeats 4000000 in
set_option maxRecDepth 100000 in
theorem ctX2_act (l : Launch) (D : va_G) (cy : Nat → ClassId) (ad : Nat → Nat → Nat) (σ : ST) (a1 : Int32) (a2 : Int32) (q : Int32 × ST) (hm : mX2_act σ a1 a2 = some q) : zMi l yX2_act wsX2_act rmX2_act D cy [.ref (ad 0 0), .int a1, .int a2] (cw cy ad σ) q.1 (cw cy ad q.2) := by
  intro sz
  refine Met.ofW (cc := cX2_act) (maxL := 4) (ret := (some .int)) (by decide) rfl ?_
  intro p e s m args below meth c s₁ B hml hv
  obtain ⟨rfl, hsz, hP, hK, hD0⟩ := hv
  have hx := B.exec
  have hb := B.bytes
  have hr := B.returns
  have hts := atoms_spec (ws := wsX2_act) B.pre
  have hown : s.vm.findClass RX2 = some m.cls := findClass_of_methodNamed B.named
  have hlocks := B.notSynchronized
  subst hsz
  have hD := hD0.self (sz := s.heap.size)
  generalize hAe : va_A (cw cy ad σ) s.heap.size = A at hD ⊢
  have hA : ∀ q : Nat, s.heap.size ≤ q → A q := fun q h => by rw [← hAe]; exact Or.inr h
  have hS : va_S A s.heap s.heap [] := va_S.rf
  have C : Cx p s m _ meth c cX2_act 4 (some .int) RX2 wsX2_act D cy A := ⟨hx, hb, hml, hown, hts, hr, hlocks, hK, hA⟩
  have hl := lv_entry ([.ref (ad 0 0), .int a1, .int a2]) (n := 4) (Nat.le_of_ble_eq_true rfl)
  rw [lg_entry_eq]
  generalize (lg_sl ([.ref (ad 0 0), .int a1, .int a2]) ++ List.replicate (4 - (lg_sl ([.ref (ad 0 0), .int a1, .int a2])).length) Slot.unset).toArray = ls at hl ⊢
  have hl : lv_has ls 4 [(0, .ref (ad 0 0)), (1, .int a1), (2, .int a2)] := hl
  unfold mX2_act at hm
  refine lv_aload_n hx hb dX2_act_0 rfl (lv_at hl 0 rfl) ?_
  obtain ⟨q_1, hq_1, hm⟩ := ob hm
  refine zc_i (zr_V [] [] ⟨hx, hb, hml, hown, hts⟩ (ctX2_eligibleBits l D cy ad σ   q_1 hq_1 _) (cwV 0 hts gX2_act_X2_eligibleBits rfl rfl rfl (by decide +kernel) ⟨Nat.le_of_ble_eq_true rfl, Nat.le_of_ble_eq_true rfl⟩) hK hP hD 0 cw_0 rfl rfl rfl hl.1 rfl (Nat.le_of_ble_eq_true rfl) dX2_act_1 ⟨Nat.zero_le _, Nat.zero_le _⟩) hD hS hA (fun H locs hP hD hS => ?_)
  refine lv_istore_n (lv' := [(3, .int q_1), (0, .ref (ad 0 0)), (1, .int a1), (2, .int a2)]) hx hb dX2_act_4 rfl hl (by decide) rfl (fun ls hl => ?_)
  refine lv_aload_n hx hb dX2_act_5 rfl (lv_at hl 1 rfl) ?_
  refine va_get (D := D) (ci := 2) (v := .ref (ad 2 0)) (C := RX2) (T := TX2) (N := 9) hx hb hts iwX2_act_X2 hown hK.1 hP 0 cw_0 rfl 5 (by decide) (hts _ lkX2_act_28) (fun _ h9 => h9) rfl dX2_act_6 ?_
  refine lv_iload_n hx hb dX2_act_9 rfl (lv_at hl 2 rfl) ?_
  refine lv_iload_n hx hb dX2_act_10 rfl (lv_at hl 3 rfl) ?_
  obtain ⟨q_2, hq_2, hm⟩ := ob hm
  refine zc_i (zr_V [.int a1, .int a2] [] ⟨hx, hb, hml, hown, hts⟩ (ctX1_hasNode l D cy ad σ  a1 a2 q_2 hq_2 _) (cwV 2 hts gX2_act_X1_hasNode rfl rfl rfl (by decide +kernel) ⟨Nat.le_of_ble_eq_true rfl, Nat.le_of_ble_eq_true rfl⟩) hK hP hD 2 cw_2 rfl rfl rfl hl.1 rfl (Nat.le_of_ble_eq_true rfl) dX2_act_11 ⟨Nat.zero_le _, Nat.zero_le _⟩) hD hS hA (fun H locs hP hD hS => ?_)
  refine lv_if_eq (tgt := 21) hx hb dX2_act_14 (by decide) (fun c_3 => ?_) (fun c_3 => ?_)
  · have hm := ifp c_3 hm
    refine lv_iconst (v := -1) hx hb dX2_act_21 (by decide) ?_
    exact z_i hx hb hr hlocks hm hP hD hS dX2_act_22
  · have hm := ifn c_3 hm
    refine lv_iload_n hx hb dX2_act_17 rfl (lv_at hl 0 rfl) ?_
    refine lv_if_ne (tgt := 23) hx hb dX2_act_18 (by decide) (fun c_4 => ?_) (fun c_4 => ?_)
    · have hm := ifn c_4 hm
      refine lv_aload_n hx hb dX2_act_23 rfl (lv_at hl 1 rfl) ?_
      refine lv_iload_n hx hb dX2_act_24 rfl (lv_at hl 0 rfl) ?_
      obtain ⟨q_5, hq_5, hm⟩ := ob hm
      refine zc_l (zr_V [.int q_1] [] ⟨hx, hb, hml, hown, hts⟩ (ctX2_valueBy l D cy ad σ  q_1 q_5 hq_5 _) (cwV 1 hts gX2_act_X2_valueBy rfl rfl rfl (by decide +kernel) ⟨Nat.le_of_ble_eq_true rfl, Nat.le_of_ble_eq_true rfl⟩) hK hP hD 0 cw_0 rfl rfl rfl hl.1 rfl (Nat.le_of_ble_eq_true rfl) dX2_act_25 ⟨Nat.zero_le _, Nat.zero_le _⟩) hD hS hA (fun H locs hP hD hS => ?_)
      refine lv_pop2_2 hx hb dX2_act_28 rfl ?_
      refine lv_aload_n hx hb dX2_act_29 rfl (lv_at hl 1 rfl) ?_
      refine va_get (D := D) (ci := 2) (v := .ref (ad 2 0)) (C := RX2) (T := TX2) (N := 9) hx hb hts iwX2_act_X2 hown hK.1 hP 0 cw_0 rfl 5 (by decide) (hts _ lkX2_act_28) (fun _ h9 => h9) rfl dX2_act_30 ?_
      refine va_get (D := D) (ci := 1) (v := .ref (ad 7 0)) (C := RX1) (T := TX1) (N := 12) hx hb hts iwX2_act_X1 hown hK.1 hP 2 cw_2 rfl 6 (by decide) (hts _ lkX2_act_208) (fun _ h9 => h9) rfl dX2_act_33 ?_
      refine lv_iload_n hx hb dX2_act_36 rfl (lv_at hl 2 rfl) ?_
      obtain ⟨h_6, hm⟩ := gd_some hm
      refine z_ald (f := fun i => ad 16 i) hx hb hK.1 hP 7 3 cw_7 rfl rfl (inb_vp h_6) dX2_act_37 ?_
      refine lv_iload_n hx hb dX2_act_38 rfl (lv_at hl 3 rfl) ?_
      obtain ⟨h_7, hm⟩ := gd_some hm
      refine va_iald hx hb hK.1 hP (13 + (8 + (8 + (21 + (Int32.toNatClampNeg a1))))) 0 (cw_16 (inb_lt h_6)) rfl (inb_vp h_7) dX2_act_39 ?_
      exact z_i hx hb hr hlocks hm hP hD hS dX2_act_40
    · have hm := ifp c_4 hm
      refine lv_iconst (v := -1) hx hb dX2_act_21 (by decide) ?_
      exact z_i hx hb hr hlocks hm hP hD hS dX2_act_22
abbrev rmX2_path : Room := { frames := 5, cells := 0, slots := 0, locals := 113 }
theorem lkX2_path_28 : Cond.fieldLink RX2 28 "DeliveryBasket" "lattice" "LDeliveryBasket$Lattice;" ∈ wsX2_path := by decide +kernel
theorem iwX2_path_X2 : ∀ w ∈ wsX20, w ∈ wsX2_path := fun _ h => List.mem_cons_of_mem _ (List.mem_append_left _ (List.mem_append_left _ (List.mem_append_right _ h)))
theorem lkX2_path_129 : Cond.fieldLink RX2 129 "DeliveryBasket$Lattice" "days" "I" ∈ wsX2_path := by decide +kernel
theorem iwX2_path_X1 : ∀ w ∈ wsX10, w ∈ wsX2_path := fun _ h => List.mem_cons_of_mem _ (List.mem_append_left _ (List.mem_append_right _ h))
theorem lkX2_path_208 : Cond.fieldLink RX2 208 "DeliveryBasket$Lattice" "acts" "[[I" ∈ wsX2_path := by decide +kernel
def bkX2_path_42  (rec : ST × Int32 × Int32 × Int32 × Int32 → Option (Int32 × ST)) (σ : ST) (x1 : Int32) (x2 : Int32) (x4 : Int32) (x5 : Int32) : Option (Int32 × ST) := if (gI σ 1 0 0) < x5 then (some ((-1 : Int32), σ)) else (gd (inb x5 21) (gd (inb x4 21) (if (gI σ 6 (Int32.toNatClampNeg x5) (Int32.toNatClampNeg x4)) = (-2 : Int32) then (rec (σ, x1, x2, (x4 + ((x1 >>> (x5 &&& 31)) &&& (1 : Int32))), (x5 + (1 : Int32)))) else (if x2 = (0 : Int32) then (some (x5, σ)) else (some ((gI σ 6 (Int32.toNatClampNeg x5) (Int32.toNatClampNeg x4)), σ))))))
def kX2_path_42  (n : Nat) (a : ST × Int32 × Int32 × Int32 × Int32) : Option (Int32 × ST) := fx (fun rec a => bkX2_path_42  rec a.1 a.2.1 a.2.2.1 a.2.2.2.1 a.2.2.2.2) n a
set_option maxHeartbeats 4000000 in
set_option maxRecDepth 100000 in
theorem kX2_path_42_ok {p : Program} {l : Launch} {e : Env} {s : State} {m : MethodId} {args : Array Value} {below : List Frame} {meth : Method} {c : Code} {D : va_G} {cy : Nat → ClassId} {ad : Nat → Nat → Nat} {A : Nat → Prop} (C : Cx p s m args meth c cX2_path 7 (some .int) RX2 wsX2_path D cy A) (q : Int32 × ST) : ∀ (n : Nat) (σ : ST) (x1 : Int32) (x2 : Int32) (x4 : Int32) (x5 : Int32), ∀ (H : Heap) (locs : List Loc), va_P D vwCl (cw cy ad σ) H → va_D A (cw cy ad σ) → va_S A s.heap H locs → ∀ ls : Array Slot, lv_has ls 7 [(0, .ref (ad 0 0)), (1, .int x1), (2, .int x2), (4, .int x4), (5, .int x5)] → kX2_path_42 n (σ, x1, x2, x4, x5) = some q → W p l e rmX2_path s m args below meth c H locs 0 0 (MQ below (zQi D (cw cy ad q.2) A q.1) args s 0 0 A) (F0 m 42 ls []) := by
  obtain ⟨hx, hb, hml, hown, hts, hr, hlocks, hK, hA⟩ := id C
  intro n
  induction n with
  | zero => intro σ x1 x2 x4 x5 H locs hP hD hS ls hl hm; cases hm
  | succ n ih =>
    intro σ x1 x2 x4 x5 H locs hP hD hS ls hl hm
    have hm : bkX2_path_42  (kX2_path_42 n) σ x1 x2 x4 x5 = some q := hm
    unfold bkX2_path_42 at hm
    refine lv_iload hx hb dX2_path_42 (lv_at hl 4 rfl) ?_
    refine lv_aload_n hx hb dX2_path_44 rfl (lv_at hl 0 rfl) ?_
    refine va_get (D := D) (ci := 2) (v := .ref (ad 2 0)) (C := RX2) (T := TX2) (N := 9) hx hb hts iwX2_path_X2 hown hK.1 hP 0 cw_0 rfl 5 (by decide) (hts _ lkX2_path_28) (fun _ h9 => h9) rfl dX2_path_45 ?_
    refine va_get (D := D) (ci := 1) (v := .int (gI σ 1 0 0)) (C := RX1) (T := TX1) (N := 12) hx hb hts iwX2_path_X1 hown hK.1 hP 2 cw_2 rfl 0 (by decide) (hts _ lkX2_path_129) (fun _ h9 => h9) rfl dX2_path_48 ?_
    refine lv_icmp_gt (tgt := 105) hx hb dX2_path_51 (by decide) (fun c_1 => ?_) (fun c_1 => ?_)
    · have hm := ifp c_1 hm
      refine lv_iconst (v := -1) hx hb dX2_path_105 (by decide) ?_
      exact z_i hx hb hr hlocks hm hP hD hS dX2_path_106
    · have hm := ifn c_1 hm
      refine lv_aload_n hx hb dX2_path_54 rfl (lv_at hl 0 rfl) ?_
      refine va_get (D := D) (ci := 2) (v := .ref (ad 2 0)) (C := RX2) (T := TX2) (N := 9) hx hb hts iwX2_path_X2 hown hK.1 hP 0 cw_0 rfl 5 (by decide) (hts _ lkX2_path_28) (fun _ h9 => h9) rfl dX2_path_55 ?_
      refine va_get (D := D) (ci := 1) (v := .ref (ad 7 0)) (C := RX1) (T := TX1) (N := 12) hx hb hts iwX2_path_X1 hown hK.1 hP 2 cw_2 rfl 6 (by decide) (hts _ lkX2_path_208) (fun _ h9 => h9) rfl dX2_path_58 ?_
      refine lv_iload hx hb dX2_path_61 (lv_at hl 4 rfl) ?_
      obtain ⟨h_2, hm⟩ := gd_some hm
      refine z_ald (f := fun i => ad 16 i) hx hb hK.1 hP 7 3 cw_7 rfl rfl (inb_vp h_2) dX2_path_63 ?_
      refine lv_iload hx hb dX2_path_64 (lv_at hl 3 rfl) ?_
      obtain ⟨h_3, hm⟩ := gd_some hm
      refine va_iald hx hb hK.1 hP (13 + (8 + (8 + (21 + (Int32.toNatClampNeg x5))))) 0 (cw_16 (inb_lt h_2)) rfl (inb_vp h_3) dX2_path_66 ?_
      refine lv_istore (lv' := [(6, .int (gI σ 6 (Int32.toNatClampNeg x5) (Int32.toNatClampNeg x4))), (0, .ref (ad 0 0)), (1, .int x1), (2, .int x2), (4, .int x4), (5, .int x5)]) hx hb dX2_path_67 hl (by decide) rfl (fun ls hl => ?_)
      refine lv_iload hx hb dX2_path_69 (lv_at hl 0 rfl) ?_
      refine lv_bipush (v := -2) hx hb dX2_path_71 (by decide) ?_
      refine lv_icmp_eq (tgt := 88) hx hb dX2_path_73 (by decide) (fun c_4 => ?_) (fun c_4 => ?_)
      · have hm := ifp c_4 hm
        refine lv_iload hx hb dX2_path_88 (lv_at hl 4 rfl) ?_
        refine lv_iload_n hx hb dX2_path_90 rfl (lv_at hl 2 rfl) ?_
        refine lv_iload hx hb dX2_path_91 (lv_at hl 5 rfl) ?_
        refine lv_ishr hx hb dX2_path_93 ?_
        refine lv_iconst (v := 1) hx hb dX2_path_94 (by decide) ?_
        refine lv_iand hx hb dX2_path_95 ?_
        refine lv_iadd hx hb dX2_path_96 ?_
        refine lv_istore (lv' := [(4, .int (x4 + ((x1 >>> (x5 &&& 31)) &&& (1 : Int32)))), (6, .int (gI σ 6 (Int32.toNatClampNeg x5) (Int32.toNatClampNeg x4))), (0, .ref (ad 0 0)), (1, .int x1), (2, .int x2), (5, .int x5)]) hx hb dX2_path_97 hl (by decide) rfl (fun ls hl => ?_)
        refine lv_iinc (v := (x5 + (1 : Int32))) (lv' := [(5, .int (x5 + (1 : Int32))), (4, .int (x4 + ((x1 >>> (x5 &&& 31)) &&& (1 : Int32)))), (6, .int (gI σ 6 (Int32.toNatClampNeg x5) (Int32.toNatClampNeg x4))), (0, .ref (ad 0 0)), (1, .int x1), (2, .int x2)]) hx hb dX2_path_99 hl (k := 5) rfl rfl (by decide) rfl (fun ls hl => ?_)
        refine lv_goto (tgt := 42) hx hb dX2_path_102 (by decide) ?_
        exact ih σ x1 x2 (x4 + ((x1 >>> (x5 &&& 31)) &&& (1 : Int32))) (x5 + (1 : Int32)) _ _ hP hD hS _ (lv_sub hl [3, 4, 5, 1, 0] rfl) hm
      · have hm := ifn c_4 hm
        refine lv_iload_n hx hb dX2_path_76 rfl (lv_at hl 3 rfl) ?_
        refine lv_if_eq (tgt := 85) hx hb dX2_path_77 (by decide) (fun c_5 => ?_) (fun c_5 => ?_)
        · have hm := ifp c_5 hm
          refine lv_iload hx hb dX2_path_85 (lv_at hl 5 rfl) ?_
          exact z_i hx hb hr hlocks hm hP hD hS dX2_path_87
        · have hm := ifn c_5 hm
          refine lv_iload hx hb dX2_path_80 (lv_at hl 0 rfl) ?_
          refine lv_goto (tgt := 87) hx hb dX2_path_82 (by decide) ?_
          exact z_i hx hb hr hlocks hm hP hD hS dX2_path_87
def mX2_path (σ : ST) (a1 : Int32) (a2 : Int32) : Option (Int32 × ST) := (mX2_eligibleBits σ).bind fun q_6 => (mX2_within a1 (0 : Int32) (((1 : Int32) <<< ((gI σ 1 0 0) &&& 31)) - (1 : Int32))).bind fun q_7 => if q_7 = (0 : Int32) then (some ((-1 : Int32), σ)) else (if q_6 = (0 : Int32) then (some ((-1 : Int32), σ)) else ((mX2_valueBy σ q_6).bind fun q_10 => kX2_path_42 FU (q_10.2, a1, a2, (0 : Int32), (0 : Int32))))
set_option maxHeartbeats 4000000 in
set_option maxRecDepth 100000 in
theorem ctX2_path (l : Launch) (D : va_G) (cy : Nat → ClassId) (ad : Nat → Nat → Nat) (σ : ST) (a1 : Int32) (a2 : Int32) (q : Int32 × ST) (hm : mX2_path σ a1 a2 = some q) : zMi l yX2_path wsX2_path rmX2_path D cy [.ref (ad 0 0), .int a1, .int a2] (cw cy ad σ) q.1 (cw cy ad q.2) := by
  intro sz
  refine Met.ofW (cc := cX2_path) (maxL := 7) (ret := (some .int)) (by decide) rfl ?_
  intro p e s m args below meth c s₁ B hml hv
  obtain ⟨rfl, hsz, hP, hK, hD0⟩ := hv
  have hx := B.exec
  have hb := B.bytes
  have hr := B.returns
  have hts := atoms_spec (ws := wsX2_path) B.pre
  have hown : s.vm.findClass RX2 = some m.cls := findClass_of_methodNamed B.named
  have hlocks := B.notSynchronized
  subst hsz
  have hD := hD0.self (sz := s.heap.size)
  generalize hAe : va_A (cw cy ad σ) s.heap.size = A at hD ⊢
  have hA : ∀ q : Nat, s.heap.size ≤ q → A q := fun q h => by rw [← hAe]; exact Or.inr h
  have hS : va_S A s.heap s.heap [] := va_S.rf
  have C : Cx p s m _ meth c cX2_path 7 (some .int) RX2 wsX2_path D cy A := ⟨hx, hb, hml, hown, hts, hr, hlocks, hK, hA⟩
  have hl := lv_entry ([.ref (ad 0 0), .int a1, .int a2]) (n := 7) (Nat.le_of_ble_eq_true rfl)
  rw [lg_entry_eq]
  generalize (lg_sl ([.ref (ad 0 0), .int a1, .int a2]) ++ List.replicate (7 - (lg_sl ([.ref (ad 0 0), .int a1, .int a2])).length) Slot.unset).toArray = ls at hl ⊢
  have hl : lv_has ls 7 [(0, .ref (ad 0 0)), (1, .int a1), (2, .int a2)] := hl
  unfold mX2_path at hm
  refine lv_aload_n hx hb dX2_path_0 rfl (lv_at hl 0 rfl) ?_
  obtain ⟨q_6, hq_6, hm⟩ := ob hm
  refine zc_i (zr_V [] [] ⟨hx, hb, hml, hown, hts⟩ (ctX2_eligibleBits l D cy ad σ   q_6 hq_6 _) (cwV 0 hts gX2_path_X2_eligibleBits rfl rfl rfl (by decide +kernel) ⟨Nat.le_of_ble_eq_true rfl, Nat.le_of_ble_eq_true rfl⟩) hK hP hD 0 cw_0 rfl rfl rfl hl.1 rfl (Nat.le_of_ble_eq_true rfl) dX2_path_1 ⟨Nat.zero_le _, Nat.zero_le _⟩) hD hS hA (fun H locs hP hD hS => ?_)
  refine lv_istore_n (lv' := [(3, .int q_6), (0, .ref (ad 0 0)), (1, .int a1), (2, .int a2)]) hx hb dX2_path_4 rfl hl (by decide) rfl (fun ls hl => ?_)
  refine lv_iload_n hx hb dX2_path_5 rfl (lv_at hl 2 rfl) ?_
  refine lv_iconst (v := 0) hx hb dX2_path_6 (by decide) ?_
  refine lv_iconst (v := 1) hx hb dX2_path_7 (by decide) ?_
  refine lv_aload_n hx hb dX2_path_8 rfl (lv_at hl 1 rfl) ?_
  refine va_get (D := D) (ci := 2) (v := .ref (ad 2 0)) (C := RX2) (T := TX2) (N := 9) hx hb hts iwX2_path_X2 hown hK.1 hP 0 cw_0 rfl 5 (by decide) (hts _ lkX2_path_28) (fun _ h9 => h9) rfl dX2_path_9 ?_
  refine va_get (D := D) (ci := 1) (v := .int (gI σ 1 0 0)) (C := RX1) (T := TX1) (N := 12) hx hb hts iwX2_path_X1 hown hK.1 hP 2 cw_2 rfl 0 (by decide) (hts _ lkX2_path_129) (fun _ h9 => h9) rfl dX2_path_12 ?_
  refine lv_ishl hx hb dX2_path_15 ?_
  refine lv_iconst (v := 1) hx hb dX2_path_16 (by decide) ?_
  refine lv_isub hx hb dX2_path_17 ?_
  obtain ⟨q_7, hq_7, hm⟩ := ob hm
  refine zc_i (zr_S [.int a1, .int (0 : Int32), .int (((1 : Int32) <<< ((gI σ 1 0 0) &&& 31)) - (1 : Int32))] [] ⟨hx, hb, hml, hown, hts⟩ (ctX2_within l D cy (cw cy ad σ)  a1 (0 : Int32) (((1 : Int32) <<< ((gI σ 1 0 0) &&& 31)) - (1 : Int32)) q_7 hq_7 _) (va_cwS 3 hts gX2_path_X2_within rfl rfl rfl (by decide +kernel) ⟨Nat.le_of_ble_eq_true rfl, Nat.le_of_ble_eq_true rfl⟩) hK hP hD rfl hl.1 rfl (Nat.le_of_ble_eq_true rfl) dX2_path_18 ⟨Nat.zero_le _, Nat.zero_le _⟩) hD hS hA (fun H locs hP hD hS => ?_)
  refine lv_if_eq (tgt := 28) hx hb dX2_path_21 (by decide) (fun c_8 => ?_) (fun c_8 => ?_)
  · have hm := ifp c_8 hm
    refine lv_iconst (v := -1) hx hb dX2_path_28 (by decide) ?_
    exact z_i hx hb hr hlocks hm hP hD hS dX2_path_29
  · have hm := ifn c_8 hm
    refine lv_iload_n hx hb dX2_path_24 rfl (lv_at hl 0 rfl) ?_
    refine lv_if_ne (tgt := 30) hx hb dX2_path_25 (by decide) (fun c_9 => ?_) (fun c_9 => ?_)
    · have hm := ifn c_9 hm
      refine lv_aload_n hx hb dX2_path_30 rfl (lv_at hl 1 rfl) ?_
      refine lv_iload_n hx hb dX2_path_31 rfl (lv_at hl 0 rfl) ?_
      obtain ⟨q_10, hq_10, hm⟩ := ob hm
      refine zc_l (zr_V [.int q_6] [] ⟨hx, hb, hml, hown, hts⟩ (ctX2_valueBy l D cy ad σ  q_6 q_10 hq_10 _) (cwV 1 hts gX2_path_X2_valueBy rfl rfl rfl (by decide +kernel) ⟨Nat.le_of_ble_eq_true rfl, Nat.le_of_ble_eq_true rfl⟩) hK hP hD 0 cw_0 rfl rfl rfl hl.1 rfl (Nat.le_of_ble_eq_true rfl) dX2_path_32 ⟨Nat.zero_le _, Nat.zero_le _⟩) hD hS hA (fun H locs hP hD hS => ?_)
      refine lv_pop2_2 hx hb dX2_path_35 rfl ?_
      refine lv_iconst (v := 0) hx hb dX2_path_36 (by decide) ?_
      refine lv_istore (lv' := [(4, .int (0 : Int32)), (3, .int q_6), (0, .ref (ad 0 0)), (1, .int a1), (2, .int a2)]) hx hb dX2_path_37 hl (by decide) rfl (fun ls hl => ?_)
      refine lv_iconst (v := 0) hx hb dX2_path_39 (by decide) ?_
      refine lv_istore (lv' := [(5, .int (0 : Int32)), (4, .int (0 : Int32)), (3, .int q_6), (0, .ref (ad 0 0)), (1, .int a1), (2, .int a2)]) hx hb dX2_path_40 hl (by decide) rfl (fun ls hl => ?_)
      exact kX2_path_42_ok C q FU q_10.2 a1 a2 (0 : Int32) (0 : Int32) _ _ hP hD hS _ (lv_sub hl [3, 4, 5, 1, 0] rfl) hm
    · have hm := ifp c_9 hm
      refine lv_iconst (v := -1) hx hb dX2_path_28 (by decide) ?_
      exact z_i hx hb hr hlocks hm hP hD hS dX2_path_29

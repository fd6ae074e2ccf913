abbrev rmX0_paidBack : Room := { frames := 0, cells := 0, slots := 0, locals := 0 }
theorem lkX0_paidBack_22 : Cond.fieldLink RX0 22 "DeliveryBasket$Bond" "periods" "I" ∈ wsX0_paidBack := by decide +kernel
theorem iwX0_paidBack_X0 : ∀ w ∈ wsX00, w ∈ wsX0_paidBack := fun _ h => List.mem_cons_of_mem _ (List.mem_append_right _ h)
theorem lkX0_paidBack_15 : Cond.fieldLink RX0 15 "DeliveryBasket$Bond" "kind" "I" ∈ wsX0_paidBack := by decide +kernel
theorem lkX0_paidBack_25 : Cond.fieldLink RX0 25 "DeliveryBasket$Bond" "extra" "I" ∈ wsX0_paidBack := by decide +kernel
theorem lkX0_paidBack_49 : Cond.constant RX0 49 (100000000) ∈ wsX0_paidBack := by decide +kernel
def mX0_paidBack (σ : ST) (k0 : Nat) (a1 : Int32) (a2 : Int32) : Option (Int32) := if a1 = (gI σ 2 k0 2) then (some a2) else (if (gI σ 2 k0 0) = (2 : Int32) then (if (gI σ 2 k0 3) ≤ (0 : Int32) then (some (0 : Int32)) else (if a1 ≤ ((gI σ 2 k0 2) - (gI σ 2 k0 3)) then (some (0 : Int32)) else (gd (nzi (gI σ 2 k0 3)) (some ((100000000 : Int32) / (gI σ 2 k0 3)))))) else (some (0 : Int32)))
set_option maxHeartbeats 4000000 in
set_option maxRecDepth 100000 in
theorem ctX0_paidBack (l : Launch) (D : va_G) (cy : Nat → ClassId) (ad : Nat → Nat → Nat) (σ : ST) {k0 : Nat} (hk0 : k0 < 8) (kk0 : Nat) (a1 : Int32) (a2 : Int32) (q : Int32) (hm : mX0_paidBack σ k0 a1 a2 = some q) : zMi l yX0_paidBack wsX0_paidBack rmX0_paidBack D cy [.ref (ad 13 k0), .int a1, .int a2] (cw cy ad σ) q (cw cy ad σ) := by
  intro sz
  refine Met.ofW (cc := cX0_paidBack) (maxL := 3) (ret := (some .int)) (by decide) rfl ?_
  intro p e s m args below meth c s₁ B hml hv
  obtain ⟨rfl, hsz, hP, hK, hD0⟩ := hv
  have hx := B.exec
  have hb := B.bytes
  have hr := B.returns
  have hts := atoms_spec (ws := wsX0_paidBack) B.pre
  have hown : s.vm.findClass RX0 = some m.cls := findClass_of_methodNamed B.named
  have hlocks := B.notSynchronized
  subst hsz
  have hD := hD0.self (sz := s.heap.size)
  generalize hAe : va_A (cw cy ad σ) s.heap.size = A at hD ⊢
  have hA : ∀ q : Nat, s.heap.size ≤ q → A q := fun q h => by rw [← hAe]; exact Or.inr h
  have hS : va_S A s.heap s.heap [] := va_S.rf
  have C : Cx p s m _ meth c cX0_paidBack 3 (some .int) RX0 wsX0_paidBack D cy A := ⟨hx, hb, hml, hown, hts, hr, hlocks, hK, hA⟩
  have hl := lv_entry ([.ref (ad 13 k0), .int a1, .int a2]) (n := 3) (Nat.le_of_ble_eq_true rfl)
  rw [lg_entry_eq]
  generalize (lg_sl ([.ref (ad 13 k0), .int a1, .int a2]) ++ List.replicate (3 - (lg_sl ([.ref (ad 13 k0), .int a1, .int a2])).length) Slot.unset).toArray = ls at hl ⊢
  have hl : lv_has ls 3 [(0, .ref (ad 13 k0)), (1, .int a1), (2, .int a2)] := hl
  unfold mX0_paidBack at hm
  refine lv_iload_n hx hb dX0_paidBack_0 rfl (lv_at hl 1 rfl) ?_
  refine lv_aload_n hx hb dX0_paidBack_1 rfl (lv_at hl 0 rfl) ?_
  refine va_get (D := D) (ci := 0) (v := .int (gI σ 2 k0 2)) (C := RX0) (T := TX0) (N := 10) hx hb hts iwX0_paidBack_X0 hown hK.1 hP (13 + k0) (cw_13 hk0) rfl 2 (by decide) (hts _ lkX0_paidBack_22) (fun _ h9 => h9) rfl dX0_paidBack_2 ?_
  refine lv_icmp_ne (tgt := 10) hx hb dX0_paidBack_5 (by decide) (fun c_1 => ?_) (fun c_1 => ?_)
  · have hm := ifn c_1 hm
    refine lv_aload_n hx hb dX0_paidBack_10 rfl (lv_at hl 0 rfl) ?_
    refine va_get (D := D) (ci := 0) (v := .int (gI σ 2 k0 0)) (C := RX0) (T := TX0) (N := 10) hx hb hts iwX0_paidBack_X0 hown hK.1 hP (13 + k0) (cw_13 hk0) rfl 0 (by decide) (hts _ lkX0_paidBack_15) (fun _ h9 => h9) rfl dX0_paidBack_11 ?_
    refine lv_iconst (v := 2) hx hb dX0_paidBack_14 (by decide) ?_
    refine lv_icmp_ne (tgt := 46) hx hb dX0_paidBack_15 (by decide) (fun c_2 => ?_) (fun c_2 => ?_)
    · have hm := ifn c_2 hm
      refine lv_iconst (v := 0) hx hb dX0_paidBack_46 (by decide) ?_
      exact z_pi hx hb hr hlocks hm hP hD hS dX0_paidBack_47
    · have hm := ifp c_2 hm
      refine lv_aload_n hx hb dX0_paidBack_18 rfl (lv_at hl 0 rfl) ?_
      refine va_get (D := D) (ci := 0) (v := .int (gI σ 2 k0 3)) (C := RX0) (T := TX0) (N := 10) hx hb hts iwX0_paidBack_X0 hown hK.1 hP (13 + k0) (cw_13 hk0) rfl 3 (by decide) (hts _ lkX0_paidBack_25) (fun _ h9 => h9) rfl dX0_paidBack_19 ?_
      refine lv_if_le (tgt := 46) hx hb dX0_paidBack_22 (by decide) (fun c_3 => ?_) (fun c_3 => ?_)
      · have hm := ifp c_3 hm
        refine lv_iconst (v := 0) hx hb dX0_paidBack_46 (by decide) ?_
        exact z_pi hx hb hr hlocks hm hP hD hS dX0_paidBack_47
      · have hm := ifn c_3 hm
        refine lv_iload_n hx hb dX0_paidBack_25 rfl (lv_at hl 1 rfl) ?_
        refine lv_aload_n hx hb dX0_paidBack_26 rfl (lv_at hl 0 rfl) ?_
        refine va_get (D := D) (ci := 0) (v := .int (gI σ 2 k0 2)) (C := RX0) (T := TX0) (N := 10) hx hb hts iwX0_paidBack_X0 hown hK.1 hP (13 + k0) (cw_13 hk0) rfl 2 (by decide) (hts _ lkX0_paidBack_22) (fun _ h9 => h9) rfl dX0_paidBack_27 ?_
        refine lv_aload_n hx hb dX0_paidBack_30 rfl (lv_at hl 0 rfl) ?_
        refine va_get (D := D) (ci := 0) (v := .int (gI σ 2 k0 3)) (C := RX0) (T := TX0) (N := 10) hx hb hts iwX0_paidBack_X0 hown hK.1 hP (13 + k0) (cw_13 hk0) rfl 3 (by decide) (hts _ lkX0_paidBack_25) (fun _ h9 => h9) rfl dX0_paidBack_31 ?_
        refine lv_isub hx hb dX0_paidBack_34 ?_
        refine lv_icmp_le (tgt := 46) hx hb dX0_paidBack_35 (by decide) (fun c_4 => ?_) (fun c_4 => ?_)
        · have hm := ifp c_4 hm
          refine lv_iconst (v := 0) hx hb dX0_paidBack_46 (by decide) ?_
          exact z_pi hx hb hr hlocks hm hP hD hS dX0_paidBack_47
        · have hm := ifn c_4 hm
          refine lv_ldc (v := 100000000) hx hb hown (hts _ lkX0_paidBack_49) dX0_paidBack_38 ?_
          refine lv_aload_n hx hb dX0_paidBack_40 rfl (lv_at hl 0 rfl) ?_
          refine va_get (D := D) (ci := 0) (v := .int (gI σ 2 k0 3)) (C := RX0) (T := TX0) (N := 10) hx hb hts iwX0_paidBack_X0 hown hK.1 hP (13 + k0) (cw_13 hk0) rfl 3 (by decide) (hts _ lkX0_paidBack_25) (fun _ h9 => h9) rfl dX0_paidBack_41 ?_
          obtain ⟨h_5, hm⟩ := gd_some hm
          refine lv_idiv hx hb dX0_paidBack_44 (nzi_n h_5) ?_
          exact z_pi hx hb hr hlocks hm hP hD hS dX0_paidBack_45
  · have hm := ifp c_1 hm
    refine lv_iload_n hx hb dX0_paidBack_8 rfl (lv_at hl 2 rfl) ?_
    exact z_pi hx hb hr hlocks hm hP hD hS dX0_paidBack_9
abbrev rmX0_couponIn : Room := { frames := 0, cells := 0, slots := 0, locals := 0 }
theorem lkX0_couponIn_15 : Cond.fieldLink RX0 15 "DeliveryBasket$Bond" "kind" "I" ∈ wsX0_couponIn := by decide +kernel
theorem iwX0_couponIn_X0 : ∀ w ∈ wsX00, w ∈ wsX0_couponIn := fun _ h => List.mem_cons_of_mem _ (List.mem_append_right _ h)
theorem lkX0_couponIn_19 : Cond.fieldLink RX0 19 "DeliveryBasket$Bond" "coupon" "I" ∈ wsX0_couponIn := by decide +kernel
theorem lkX0_couponIn_25 : Cond.fieldLink RX0 25 "DeliveryBasket$Bond" "extra" "I" ∈ wsX0_couponIn := by decide +kernel
def mX0_couponIn (σ : ST) (k0 : Nat) (a1 : Int32) : Option (Int32) := if (gI σ 2 k0 0) = (1 : Int32) then (some ((gI σ 2 k0 1) + ((gI σ 2 k0 3) * (a1 - (1 : Int32))))) else (some (gI σ 2 k0 1))
set_option maxHeartbeats 4000000 in
set_option maxRecDepth 100000 in
theorem ctX0_couponIn (l : Launch) (D : va_G) (cy : Nat → ClassId) (ad : Nat → Nat → Nat) (σ : ST) {k0 : Nat} (hk0 : k0 < 8) (kk0 : Nat) (a1 : Int32) (q : Int32) (hm : mX0_couponIn σ k0 a1 = some q) : zMi l yX0_couponIn wsX0_couponIn rmX0_couponIn D cy [.ref (ad 13 k0), .int a1] (cw cy ad σ) q (cw cy ad σ) := by
  intro sz
  refine Met.ofW (cc := cX0_couponIn) (maxL := 2) (ret := (some .int)) (by decide) rfl ?_
  intro p e s m args below meth c s₁ B hml hv
  obtain ⟨rfl, hsz, hP, hK, hD0⟩ := hv
  have hx := B.exec
  have hb := B.bytes
  have hr := B.returns
  have hts := atoms_spec (ws := wsX0_couponIn) B.pre
  have hown : s.vm.findClass RX0 = some m.cls := findClass_of_methodNamed B.named
  have hlocks := B.notSynchronized
  subst hsz
  have hD := hD0.self (sz := s.heap.size)
  generalize hAe : va_A (cw cy ad σ) s.heap.size = A at hD ⊢
  have hA : ∀ q : Nat, s.heap.size ≤ q → A q := fun q h => by rw [← hAe]; exact Or.inr h
  have hS : va_S A s.heap s.heap [] := va_S.rf
  have C : Cx p s m _ meth c cX0_couponIn 2 (some .int) RX0 wsX0_couponIn D cy A := ⟨hx, hb, hml, hown, hts, hr, hlocks, hK, hA⟩
  have hl := lv_entry ([.ref (ad 13 k0), .int a1]) (n := 2) (Nat.le_of_ble_eq_true rfl)
  rw [lg_entry_eq]
  generalize (lg_sl ([.ref (ad 13 k0), .int a1]) ++ List.replicate (2 - (lg_sl ([.ref (ad 13 k0), .int a1])).length) Slot.unset).toArray = ls at hl ⊢
  have hl : lv_has ls 2 [(0, .ref (ad 13 k0)), (1, .int a1)] := hl
  unfold mX0_couponIn at hm
  refine lv_aload_n hx hb dX0_couponIn_0 rfl (lv_at hl 0 rfl) ?_
  refine va_get (D := D) (ci := 0) (v := .int (gI σ 2 k0 0)) (C := RX0) (T := TX0) (N := 10) hx hb hts iwX0_couponIn_X0 hown hK.1 hP (13 + k0) (cw_13 hk0) rfl 0 (by decide) (hts _ lkX0_couponIn_15) (fun _ h9 => h9) rfl dX0_couponIn_1 ?_
  refine lv_iconst (v := 1) hx hb dX0_couponIn_4 (by decide) ?_
  refine lv_icmp_ne (tgt := 24) hx hb dX0_couponIn_5 (by decide) (fun c_1 => ?_) (fun c_1 => ?_)
  · have hm := ifn c_1 hm
    refine lv_aload_n hx hb dX0_couponIn_24 rfl (lv_at hl 0 rfl) ?_
    refine va_get (D := D) (ci := 0) (v := .int (gI σ 2 k0 1)) (C := RX0) (T := TX0) (N := 10) hx hb hts iwX0_couponIn_X0 hown hK.1 hP (13 + k0) (cw_13 hk0) rfl 1 (by decide) (hts _ lkX0_couponIn_19) (fun _ h9 => h9) rfl dX0_couponIn_25 ?_
    exact z_pi hx hb hr hlocks hm hP hD hS dX0_couponIn_28
  · have hm := ifp c_1 hm
    refine lv_aload_n hx hb dX0_couponIn_8 rfl (lv_at hl 0 rfl) ?_
    refine va_get (D := D) (ci := 0) (v := .int (gI σ 2 k0 1)) (C := RX0) (T := TX0) (N := 10) hx hb hts iwX0_couponIn_X0 hown hK.1 hP (13 + k0) (cw_13 hk0) rfl 1 (by decide) (hts _ lkX0_couponIn_19) (fun _ h9 => h9) rfl dX0_couponIn_9 ?_
    refine lv_aload_n hx hb dX0_couponIn_12 rfl (lv_at hl 0 rfl) ?_
    refine va_get (D := D) (ci := 0) (v := .int (gI σ 2 k0 3)) (C := RX0) (T := TX0) (N := 10) hx hb hts iwX0_couponIn_X0 hown hK.1 hP (13 + k0) (cw_13 hk0) rfl 3 (by decide) (hts _ lkX0_couponIn_25) (fun _ h9 => h9) rfl dX0_couponIn_13 ?_
    refine lv_iload_n hx hb dX0_couponIn_16 rfl (lv_at hl 1 rfl) ?_
    refine lv_iconst (v := 1) hx hb dX0_couponIn_17 (by decide) ?_
    refine lv_isub hx hb dX0_couponIn_18 ?_
    refine lv_imul hx hb dX0_couponIn_19 ?_
    refine lv_iadd hx hb dX0_couponIn_20 ?_
    refine lv_goto (tgt := 28) hx hb dX0_couponIn_21 (by decide) ?_
    exact z_pi hx hb hr hlocks hm hP hD hS dX0_couponIn_28
abbrev rmX0_layFlows : Room := { frames := 1, cells := 0, slots := 0, locals := 22 }
theorem lkX0_layFlows_22 : Cond.fieldLink RX0 22 "DeliveryBasket$Bond" "periods" "I" ∈ wsX0_layFlows := by decide +kernel
theorem iwX0_layFlows_X0 : ∀ w ∈ wsX00, w ∈ wsX0_layFlows := fun _ h => List.mem_cons_of_mem _ (List.mem_append_right _ h)
theorem lkX0_layFlows_9 : Cond.fieldLink RX0 9 "DeliveryBasket$Bond" "flows" "[I" ∈ wsX0_layFlows := by decide +kernel
theorem lkX0_layFlows_58 : Cond.constantLong RX0 58 (10000) ∈ wsX0_layFlows := by decide +kernel
theorem lkX0_layFlows_49 : Cond.constant RX0 49 (100000000) ∈ wsX0_layFlows := by decide +kernel
def bkX0_layFlows_5  (rec : ST × Nat × Int32 × Int32 → Option (ST)) (σ : ST) (k0 : Nat) (x1 : Int32) (x2 : Int32) : Option (ST) := gd (decide (k0 < 8)) (if (gI σ 2 k0 2) < x2 then (some σ) else (if (41 : Int32) ≤ x2 then (some σ) else ((mX0_paidBack σ k0 x2 x1).bind fun q_3 => (mX0_couponIn σ k0 x2).bind fun q_4 => gd (inb x2 41) (sv (sI σ 3 k0 (Int32.toNatClampNeg x2) ((Int64.toInt32 (((Int32.toInt64 q_4) * (Int32.toInt64 x1)) / (10000 : Int64))) + q_3)) fun σ_6 => rec (σ_6, k0, (x1 - q_3), (x2 + (1 : Int32)))))))
def kX0_layFlows_5  (n : Nat) (a : ST × Nat × Int32 × Int32) : Option (ST) := fx (fun rec a => bkX0_layFlows_5  rec a.1 a.2.1 a.2.2.1 a.2.2.2) n a
set_option maxHeartbeats 4000000 in
set_option maxRecDepth 100000 in
theorem kX0_layFlows_5_ok {p : Program} {l : Launch} {e : Env} {s : State} {m : MethodId} {args : Array Value} {below : List Frame} {meth : Method} {c : Code} {D : va_G} {cy : Nat → ClassId} {ad : Nat → Nat → Nat} {A : Nat → Prop} (C : Cx p s m args meth c cX0_layFlows 4 none RX0 wsX0_layFlows D cy A) (q : ST) : ∀ (n : Nat) (σ : ST) (k0 : Nat) (x1 : Int32) (x2 : Int32), ∀ (H : Heap) (locs : List Loc), va_P D vwCl (cw cy ad σ) H → va_D A (cw cy ad σ) → va_S A s.heap H locs → ∀ ls : Array Slot, lv_has ls 4 [(0, .ref (ad 13 k0)), (1, .int x1), (2, .int x2)] → kX0_layFlows_5 n (σ, k0, x1, x2) = some q → W p l e rmX0_layFlows s m args below meth c H locs 0 0 (MQ below (zQv D (cw cy ad q) A) args s 0 0 A) (F0 m 5 ls []) := by
  obtain ⟨hx, hb, hml, hown, hts, hr, hlocks, hK, hA⟩ := id C
  intro n
  induction n with
  | zero => intro σ k0 x1 x2 H locs hP hD hS ls hl hm; cases hm
  | succ n ih =>
    intro σ k0 x1 x2 H locs hP hD hS ls hl hm
    have hm : bkX0_layFlows_5  (kX0_layFlows_5 n) σ k0 x1 x2 = some q := hm
    unfold bkX0_layFlows_5 at hm
    obtain ⟨hk_k0, hm⟩ := gd_some hm
    have hk_k0 := lt_of_dec hk_k0
    refine lv_iload_n hx hb dX0_layFlows_5 rfl (lv_at hl 2 rfl) ?_
    refine lv_aload_n hx hb dX0_layFlows_6 rfl (lv_at hl 0 rfl) ?_
    refine va_get (D := D) (ci := 0) (v := .int (gI σ 2 k0 2)) (C := RX0) (T := TX0) (N := 10) hx hb hts iwX0_layFlows_X0 hown hK.1 hP (13 + k0) (cw_13 hk_k0) rfl 2 (by decide) (hts _ lkX0_layFlows_22) (fun _ h9 => h9) rfl dX0_layFlows_7 ?_
    refine lv_icmp_gt (tgt := 61) hx hb dX0_layFlows_10 (by decide) (fun c_1 => ?_) (fun c_1 => ?_)
    · have hm := ifp c_1 hm
      exact z_v hx hb hr hlocks hm hP hD hS dX0_layFlows_61
    · have hm := ifn c_1 hm
      refine lv_iload_n hx hb dX0_layFlows_13 rfl (lv_at hl 2 rfl) ?_
      refine lv_aload_n hx hb dX0_layFlows_14 rfl (lv_at hl 0 rfl) ?_
      refine va_get (D := D) (ci := 0) (v := .ref (ad 14 k0)) (C := RX0) (T := TX0) (N := 10) hx hb hts iwX0_layFlows_X0 hown hK.1 hP (13 + k0) (cw_13 hk_k0) rfl 8 (by decide) (hts _ lkX0_layFlows_9) (fun _ h9 => h9) rfl dX0_layFlows_15 ?_
      refine va_alen (v := 41) hx hb hK.1 hP (13 + (8 + k0)) 0 (cw_14 hk_k0) rfl rfl dX0_layFlows_18 ?_
      refine lv_icmp_ge (tgt := 61) hx hb dX0_layFlows_19 (by decide) (fun c_2 => ?_) (fun c_2 => ?_)
      · have hm := ifp c_2 hm
        exact z_v hx hb hr hlocks hm hP hD hS dX0_layFlows_61
      · have hm := ifn c_2 hm
        refine lv_aload_n hx hb dX0_layFlows_22 rfl (lv_at hl 0 rfl) ?_
        refine lv_iload_n hx hb dX0_layFlows_23 rfl (lv_at hl 2 rfl) ?_
        refine lv_iload_n hx hb dX0_layFlows_24 rfl (lv_at hl 1 rfl) ?_
        obtain ⟨q_3, hq_3, hm⟩ := ob hm
        refine zc_i (zr_V [.int x2, .int x1] [] ⟨hx, hb, hml, hown, hts⟩ (ctX0_paidBack l D cy ad σ hk_k0 k0 x2 x1 q_3 hq_3 _) (cwV 2 hts gX0_layFlows_X0_paidBack rfl rfl rfl (by decide +kernel) ⟨Nat.le_of_ble_eq_true rfl, Nat.le_of_ble_eq_true rfl⟩) hK hP hD (13 + k0) (cw_13 hk_k0) rfl rfl rfl hl.1 rfl (Nat.le_of_ble_eq_true rfl) dX0_layFlows_25 ⟨Nat.zero_le _, Nat.zero_le _⟩) hD hS hA (fun H locs hP hD hS => ?_)
        refine lv_istore_n (lv' := [(3, .int q_3), (0, .ref (ad 13 k0)), (1, .int x1), (2, .int x2)]) hx hb dX0_layFlows_28 rfl hl (by decide) rfl (fun ls hl => ?_)
        refine lv_aload_n hx hb dX0_layFlows_29 rfl (lv_at hl 1 rfl) ?_
        refine va_get (D := D) (ci := 0) (v := .ref (ad 14 k0)) (C := RX0) (T := TX0) (N := 10) hx hb hts iwX0_layFlows_X0 hown hK.1 hP (13 + k0) (cw_13 hk_k0) rfl 8 (by decide) (hts _ lkX0_layFlows_9) (fun _ h9 => h9) rfl dX0_layFlows_30 ?_
        refine lv_iload_n hx hb dX0_layFlows_33 rfl (lv_at hl 3 rfl) ?_
        refine lv_aload_n hx hb dX0_layFlows_34 rfl (lv_at hl 1 rfl) ?_
        refine lv_iload_n hx hb dX0_layFlows_35 rfl (lv_at hl 3 rfl) ?_
        obtain ⟨q_4, hq_4, hm⟩ := ob hm
        refine zc_i (zr_V [.int x2] [.int x2, .ref (ad 14 k0)] ⟨hx, hb, hml, hown, hts⟩ (ctX0_couponIn l D cy ad σ hk_k0 k0 x2 q_4 hq_4 _) (cwV 1 hts gX0_layFlows_X0_couponIn rfl rfl rfl (by decide +kernel) ⟨Nat.le_of_ble_eq_true rfl, Nat.le_of_ble_eq_true rfl⟩) hK hP hD (13 + k0) (cw_13 hk_k0) rfl rfl rfl hl.1 rfl (Nat.le_of_ble_eq_true rfl) dX0_layFlows_36 ⟨Nat.zero_le _, Nat.zero_le _⟩) hD hS hA (fun H locs hP hD hS => ?_)
        refine lv_i2l hx hb dX0_layFlows_39 rfl ?_
        refine lv_iload_n hx hb dX0_layFlows_40 rfl (lv_at hl 2 rfl) ?_
        refine lv_i2l hx hb dX0_layFlows_41 rfl ?_
        refine lv_lmul hx hb dX0_layFlows_42 ?_
        refine lv_ldc2 (v := 10000) hx hb hown (hts _ lkX0_layFlows_58) dX0_layFlows_43 ?_
        refine lv_ldiv hx hb dX0_layFlows_46 (by decide) ?_
        refine lv_l2i hx hb dX0_layFlows_47 rfl ?_
        refine lv_iload_n hx hb dX0_layFlows_48 rfl (lv_at hl 0 rfl) ?_
        refine lv_iadd hx hb dX0_layFlows_49 ?_
        obtain ⟨h_5, hm⟩ := gd_some hm
        refine va_iast hx hb hK.1 hP hD hS (13 + (8 + k0)) 0 (cw_14 hk_k0) rfl (inb_vp h_5) dX0_layFlows_50 (fun H locs hP hD hS => ?_)
        have hP := eP (cw_s14 (k := k0) hk_k0) hP
        have hD := eD (cw_s14 (k := k0) hk_k0) hD
        obtain ⟨σ_6, e_6, hm⟩ := sv_some hm
        have hP : va_P D vwCl (cw cy ad σ_6) H := by rw [e_6]; exact hP
        have hD : va_D A (cw cy ad σ_6) := by rw [e_6]; exact hD
        refine lv_iload_n hx hb dX0_layFlows_51 rfl (lv_at hl 2 rfl) ?_
        refine lv_iload_n hx hb dX0_layFlows_52 rfl (lv_at hl 0 rfl) ?_
        refine lv_isub hx hb dX0_layFlows_53 ?_
        refine lv_istore_n (lv' := [(1, .int (x1 - q_3)), (3, .int q_3), (0, .ref (ad 13 k0)), (2, .int x2)]) hx hb dX0_layFlows_54 rfl hl (by decide) rfl (fun ls hl => ?_)
        refine lv_iinc (v := (x2 + (1 : Int32))) (lv' := [(2, .int (x2 + (1 : Int32))), (1, .int (x1 - q_3)), (3, .int q_3), (0, .ref (ad 13 k0))]) hx hb dX0_layFlows_55 hl (k := 3) rfl rfl (by decide) rfl (fun ls hl => ?_)
        refine lv_goto (tgt := 5) hx hb dX0_layFlows_58 (by decide) ?_
        exact ih σ_6 k0 (x1 - q_3) (x2 + (1 : Int32)) _ _ hP hD hS _ (lv_sub hl [3, 1, 0] rfl) hm
def mX0_layFlows (σ : ST) (k0 : Nat) : Option (ST) := kX0_layFlows_5 FU (σ, k0, (100000000 : Int32), (1 : Int32))
set_option maxHeartbeats 4000000 in
set_option maxRecDepth 100000 in
theorem ctX0_layFlows (l : Launch) (D : va_G) (cy : Nat → ClassId) (ad : Nat → Nat → Nat) (σ : ST) {k0 : Nat} (hk0 : k0 < 8) (kk0 : Nat)  (q : ST) (hm : mX0_layFlows σ k0 = some q) : zMv l yX0_layFlows wsX0_layFlows rmX0_layFlows D cy [.ref (ad 13 k0)] (cw cy ad σ) (cw cy ad q) := by
  intro sz
  refine Met.ofW (cc := cX0_layFlows) (maxL := 4) (ret := none) (by decide) rfl ?_
  intro p e s m args below meth c s₁ B hml hv
  obtain ⟨rfl, hsz, hP, hK, hD0⟩ := hv
  have hx := B.exec
  have hb := B.bytes
  have hr := B.returns
  have hts := atoms_spec (ws := wsX0_layFlows) B.pre
  have hown : s.vm.findClass RX0 = some m.cls := findClass_of_methodNamed B.named
  have hlocks := B.notSynchronized
  subst hsz
  have hD := hD0.self (sz := s.heap.size)
  generalize hAe : va_A (cw cy ad σ) s.heap.size = A at hD ⊢
  have hA : ∀ q : Nat, s.heap.size ≤ q → A q := fun q h => by rw [← hAe]; exact Or.inr h
  have hS : va_S A s.heap s.heap [] := va_S.rf
  have C : Cx p s m _ meth c cX0_layFlows 4 none RX0 wsX0_layFlows D cy A := ⟨hx, hb, hml, hown, hts, hr, hlocks, hK, hA⟩
  have hl := lv_entry ([.ref (ad 13 k0)]) (n := 4) (Nat.le_of_ble_eq_true rfl)
  rw [lg_entry_eq]
  generalize (lg_sl ([.ref (ad 13 k0)]) ++ List.replicate (4 - (lg_sl ([.ref (ad 13 k0)])).length) Slot.unset).toArray = ls at hl ⊢
  have hl : lv_has ls 4 [(0, .ref (ad 13 k0))] := hl
  unfold mX0_layFlows at hm
  refine lv_ldc (v := 100000000) hx hb hown (hts _ lkX0_layFlows_49) dX0_layFlows_0 ?_
  refine lv_istore_n (lv' := [(1, .int (100000000 : Int32)), (0, .ref (ad 13 k0))]) hx hb dX0_layFlows_2 rfl hl (by decide) rfl (fun ls hl => ?_)
  refine lv_iconst (v := 1) hx hb dX0_layFlows_3 (by decide) ?_
  refine lv_istore_n (lv' := [(2, .int (1 : Int32)), (1, .int (100000000 : Int32)), (0, .ref (ad 13 k0))]) hx hb dX0_layFlows_4 rfl hl (by decide) rfl (fun ls hl => ?_)
  exact kX0_layFlows_5_ok C q FU σ k0 (100000000 : Int32) (1 : Int32) _ _ hP hD hS _ (lv_sub hl [2, 1, 0] rfl) hm
abbrev rmX0_become : Room := { frames := 2, cells := 0, slots := 0, locals := 45 }
theorem lkX0_become_15 : Cond.fieldLink RX0 15 "DeliveryBasket$Bond" "kind" "I" ∈ wsX0_become := by decide +kernel
theorem iwX0_become_X0 : ∀ w ∈ wsX00, w ∈ wsX0_become := fun _ h => List.mem_cons_of_mem _ (List.mem_append_right _ h)
theorem lkX0_become_19 : Cond.fieldLink RX0 19 "DeliveryBasket$Bond" "coupon" "I" ∈ wsX0_become := by decide +kernel
theorem lkX0_become_22 : Cond.fieldLink RX0 22 "DeliveryBasket$Bond" "periods" "I" ∈ wsX0_become := by decide +kernel
theorem lkX0_become_25 : Cond.fieldLink RX0 25 "DeliveryBasket$Bond" "extra" "I" ∈ wsX0_become := by decide +kernel
theorem lkX0_become_28 : Cond.fieldLink RX0 28 "DeliveryBasket$Bond" "spread" "I" ∈ wsX0_become := by decide +kernel
theorem lkX0_become_31 : Cond.fieldLink RX0 31 "DeliveryBasket$Bond" "stock" "I" ∈ wsX0_become := by decide +kernel
theorem lkX0_become_34 : Cond.fieldLink RX0 34 "DeliveryBasket$Bond" "barred" "I" ∈ wsX0_become := by decide +kernel
theorem lkX0_become_40 : Cond.fieldLink RX0 40 "DeliveryBasket$Bond" "worths" "[I" ∈ wsX0_become := by decide +kernel
def mX0_become (σ : ST) (k0 : Nat) (a1 : Int32) (a2 : Int32) (a3 : Int32) (a4 : Int32) (a5 : Int32) : Option (ST) := sv (sI σ 2 k0 0 a1) fun σ_1 => sv (sI σ_1 2 k0 1 a2) fun σ_2 => sv (sI σ_2 2 k0 2 a3) fun σ_3 => sv (sI σ_3 2 k0 3 a4) fun σ_4 => sv (sI σ_4 2 k0 4 a5) fun σ_5 => sv (sI σ_5 2 k0 5 (0 : Int32)) fun σ_6 => sv (sI σ_6 2 k0 6 (0 : Int32)) fun σ_7 => (mX0_layFlows σ_7 k0).bind fun q_8 => if gW q_8 k0 = true then (sv (sR q_8 10 k0 (fun _ => (0 : Int32))) fun σ_11 => some σ_11) else (some q_8)
set_option maxHeartbeats 4000000 in
set_option maxRecDepth 100000 in
theorem ctX0_become (l : Launch) (D : va_G) (cy : Nat → ClassId) (ad : Nat → Nat → Nat) (σ : ST) {k0 : Nat} (hk0 : k0 < 8) (kk0 : Nat) (a1 : Int32) (a2 : Int32) (a3 : Int32) (a4 : Int32) (a5 : Int32) (q : ST) (hm : mX0_become σ k0 a1 a2 a3 a4 a5 = some q) : zMv l yX0_become wsX0_become rmX0_become D cy [.ref (ad 13 k0), .int a1, .int a2, .int a3, .int a4, .int a5] (cw cy ad σ) (cw cy ad q) := by
  intro sz
  refine Met.ofW (cc := cX0_become) (maxL := 6) (ret := none) (by decide) rfl ?_
  intro p e s m args below meth c s₁ B hml hv
  obtain ⟨rfl, hsz, hP, hK, hD0⟩ := hv
  have hx := B.exec
  have hb := B.bytes
  have hr := B.returns
  have hts := atoms_spec (ws := wsX0_become) B.pre
  have hown : s.vm.findClass RX0 = some m.cls := findClass_of_methodNamed B.named
  have hlocks := B.notSynchronized
  subst hsz
  have hD := hD0.self (sz := s.heap.size)
  generalize hAe : va_A (cw cy ad σ) s.heap.size = A at hD ⊢
  have hA : ∀ q : Nat, s.heap.size ≤ q → A q := fun q h => by rw [← hAe]; exact Or.inr h
  have hS : va_S A s.heap s.heap [] := va_S.rf
  have C : Cx p s m _ meth c cX0_become 6 none RX0 wsX0_become D cy A := ⟨hx, hb, hml, hown, hts, hr, hlocks, hK, hA⟩
  have hl := lv_entry ([.ref (ad 13 k0), .int a1, .int a2, .int a3, .int a4, .int a5]) (n := 6) (Nat.le_of_ble_eq_true rfl)
  rw [lg_entry_eq]
  generalize (lg_sl ([.ref (ad 13 k0), .int a1, .int a2, .int a3, .int a4, .int a5]) ++ List.replicate (6 - (lg_sl ([.ref (ad 13 k0), .int a1, .int a2, .int a3, .int a4, .int a5])).length) Slot.unset).toArray = ls at hl ⊢
  have hl : lv_has ls 6 [(0, .ref (ad 13 k0)), (1, .int a1), (2, .int a2), (3, .int a3), (4, .int a4), (5, .int a5)] := hl
  unfold mX0_become at hm
  refine lv_aload_n hx hb dX0_become_0 rfl (lv_at hl 0 rfl) ?_
  refine lv_iload_n hx hb dX0_become_1 rfl (lv_at hl 1 rfl) ?_
  refine va_put (D := D) (ci := 0) (v := .int a1) (ty := .int) (C := RX0) (T := TX0) (N := 10) hx hb hts iwX0_become_X0 tyX0 tyX0_ok nmX0 hown hK.1 hP hD hS (13 + k0) (cw_13 hk0) rfl 0 (by decide) (hts _ lkX0_become_15) (fun _ h9 => h9) rfl (by decide +kernel) rfl rfl (Nat.le_of_ble_eq_true rfl) dX0_become_2 (fun H locs hP hD hS => ?_)
  have hP := eP (cw_s13 (σ := σ) (j := 0) (v := a1) (by simp [gI_sI]) hk0) hP
  have hD := eD (cw_s13 (σ := σ) (j := 0) (v := a1) (by simp [gI_sI]) hk0) hD
  obtain ⟨σ_1, e_1, hm⟩ := sv_some hm
  have hP : va_P D vwCl (cw cy ad σ_1) H := by rw [e_1]; exact hP
  have hD : va_D A (cw cy ad σ_1) := by rw [e_1]; exact hD
  refine lv_aload_n hx hb dX0_become_5 rfl (lv_at hl 0 rfl) ?_
  refine lv_iload_n hx hb dX0_become_6 rfl (lv_at hl 2 rfl) ?_
  refine va_put (D := D) (ci := 0) (v := .int a2) (ty := .int) (C := RX0) (T := TX0) (N := 10) hx hb hts iwX0_become_X0 tyX0 tyX0_ok nmX0 hown hK.1 hP hD hS (13 + k0) (cw_13 hk0) rfl 1 (by decide) (hts _ lkX0_become_19) (fun _ h9 => h9) rfl (by decide +kernel) rfl rfl (Nat.le_of_ble_eq_true rfl) dX0_become_7 (fun H locs hP hD hS => ?_)
  have hP := eP (cw_s13 (σ := σ_1) (j := 1) (v := a2) (by simp [gI_sI]) hk0) hP
  have hD := eD (cw_s13 (σ := σ_1) (j := 1) (v := a2) (by simp [gI_sI]) hk0) hD
  obtain ⟨σ_2, e_2, hm⟩ := sv_some hm
  have hP : va_P D vwCl (cw cy ad σ_2) H := by rw [e_2]; exact hP
  have hD : va_D A (cw cy ad σ_2) := by rw [e_2]; exact hD
  refine lv_aload_n hx hb dX0_become_10 rfl (lv_at hl 0 rfl) ?_
  refine lv_iload_n hx hb dX0_become_11 rfl (lv_at hl 3 rfl) ?_
  refine va_put (D := D) (ci := 0) (v := .int a3) (ty := .int) (C := RX0) (T := TX0) (N := 10) hx hb hts iwX0_become_X0 tyX0 tyX0_ok nmX0 hown hK.1 hP hD hS (13 + k0) (cw_13 hk0) rfl 2 (by decide) (hts _ lkX0_become_22) (fun _ h9 => h9) rfl (by decide +kernel) rfl rfl (Nat.le_of_ble_eq_true rfl) dX0_become_12 (fun H locs hP hD hS => ?_)
  have hP := eP (cw_s13 (σ := σ_2) (j := 2) (v := a3) (by simp [gI_sI]) hk0) hP
  have hD := eD (cw_s13 (σ := σ_2) (j := 2) (v := a3) (by simp [gI_sI]) hk0) hD
  obtain ⟨σ_3, e_3, hm⟩ := sv_some hm
  have hP : va_P D vwCl (cw cy ad σ_3) H := by rw [e_3]; exact hP
  have hD : va_D A (cw cy ad σ_3) := by rw [e_3]; exact hD
  refine lv_aload_n hx hb dX0_become_15 rfl (lv_at hl 0 rfl) ?_
  refine lv_iload hx hb dX0_become_16 (lv_at hl 4 rfl) ?_
  refine va_put (D := D) (ci := 0) (v := .int a4) (ty := .int) (C := RX0) (T := TX0) (N := 10) hx hb hts iwX0_become_X0 tyX0 tyX0_ok nmX0 hown hK.1 hP hD hS (13 + k0) (cw_13 hk0) rfl 3 (by decide) (hts _ lkX0_become_25) (fun _ h9 => h9) rfl (by decide +kernel) rfl rfl (Nat.le_of_ble_eq_true rfl) dX0_become_18 (fun H locs hP hD hS => ?_)
  have hP := eP (cw_s13 (σ := σ_3) (j := 3) (v := a4) (by simp [gI_sI]) hk0) hP
  have hD := eD (cw_s13 (σ := σ_3) (j := 3) (v := a4) (by simp [gI_sI]) hk0) hD
  obtain ⟨σ_4, e_4, hm⟩ := sv_some hm
  have hP : va_P D vwCl (cw cy ad σ_4) H := by rw [e_4]; exact hP
  have hD : va_D A (cw cy ad σ_4) := by rw [e_4]; exact hD
  refine lv_aload_n hx hb dX0_become_21 rfl (lv_at hl 0 rfl) ?_
  refine lv_iload hx hb dX0_become_22 (lv_at hl 5 rfl) ?_
  refine va_put (D := D) (ci := 0) (v := .int a5) (ty := .int) (C := RX0) (T := TX0) (N := 10) hx hb hts iwX0_become_X0 tyX0 tyX0_ok nmX0 hown hK.1 hP hD hS (13 + k0) (cw_13 hk0) rfl 4 (by decide) (hts _ lkX0_become_28) (fun _ h9 => h9) rfl (by decide +kernel) rfl rfl (Nat.le_of_ble_eq_true rfl) dX0_become_24 (fun H locs hP hD hS => ?_)
  have hP := eP (cw_s13 (σ := σ_4) (j := 4) (v := a5) (by simp [gI_sI]) hk0) hP
  have hD := eD (cw_s13 (σ := σ_4) (j := 4) (v := a5) (by simp [gI_sI]) hk0) hD
  obtain ⟨σ_5, e_5, hm⟩ := sv_some hm
  have hP : va_P D vwCl (cw cy ad σ_5) H := by rw [e_5]; exact hP
  have hD : va_D A (cw cy ad σ_5) := by rw [e_5]; exact hD
  refine lv_aload_n hx hb dX0_become_27 rfl (lv_at hl 0 rfl) ?_
  refine lv_iconst (v := 0) hx hb dX0_become_28 (by decide) ?_
  refine va_put (D := D) (ci := 0) (v := .int (0 : Int32)) (ty := .int) (C := RX0) (T := TX0) (N := 10) hx hb hts iwX0_become_X0 tyX0 tyX0_ok nmX0 hown hK.1 hP hD hS (13 + k0) (cw_13 hk0) rfl 5 (by decide) (hts _ lkX0_become_31) (fun _ h9 => h9) rfl (by decide +kernel) rfl rfl (Nat.le_of_ble_eq_true rfl) dX0_become_29 (fun H locs hP hD hS => ?_)
  have hP := eP (cw_s13 (σ := σ_5) (j := 5) (v := (0 : Int32)) (by simp [gI_sI]) hk0) hP
  have hD := eD (cw_s13 (σ := σ_5) (j := 5) (v := (0 : Int32)) (by simp [gI_sI]) hk0) hD
  obtain ⟨σ_6, e_6, hm⟩ := sv_some hm
  have hP : va_P D vwCl (cw cy ad σ_6) H := by rw [e_6]; exact hP
  have hD : va_D A (cw cy ad σ_6) := by rw [e_6]; exact hD
  refine lv_aload_n hx hb dX0_become_32 rfl (lv_at hl 0 rfl) ?_
  refine lv_iconst (v := 0) hx hb dX0_become_33 (by decide) ?_
  refine va_put (D := D) (ci := 0) (v := .int (0 : Int32)) (ty := .int) (C := RX0) (T := TX0) (N := 10) hx hb hts iwX0_become_X0 tyX0 tyX0_ok nmX0 hown hK.1 hP hD hS (13 + k0) (cw_13 hk0) rfl 6 (by decide) (hts _ lkX0_become_34) (fun _ h9 => h9) rfl (by decide +kernel) rfl rfl (Nat.le_of_ble_eq_true rfl) dX0_become_34 (fun H locs hP hD hS => ?_)
  have hP := eP (cw_s13 (σ := σ_6) (j := 6) (v := (0 : Int32)) (by simp [gI_sI]) hk0) hP
  have hD := eD (cw_s13 (σ := σ_6) (j := 6) (v := (0 : Int32)) (by simp [gI_sI]) hk0) hD
  obtain ⟨σ_7, e_7, hm⟩ := sv_some hm
  have hP : va_P D vwCl (cw cy ad σ_7) H := by rw [e_7]; exact hP
  have hD : va_D A (cw cy ad σ_7) := by rw [e_7]; exact hD
  refine lv_aload_n hx hb dX0_become_37 rfl (lv_at hl 0 rfl) ?_
  obtain ⟨q_8, hq_8, hm⟩ := ob hm
  refine zc_v (zr_V [] [] ⟨hx, hb, hml, hown, hts⟩ (ctX0_layFlows l D cy ad σ_7 hk0 k0 q_8 hq_8 _) (cwV 0 hts gX0_become_X0_layFlows rfl rfl rfl (by decide +kernel) ⟨Nat.le_of_ble_eq_true rfl, Nat.le_of_ble_eq_true rfl⟩) hK hP hD (13 + k0) (cw_13 hk0) rfl rfl rfl hl.1 rfl (Nat.le_of_ble_eq_true rfl) dX0_become_38 ⟨Nat.zero_le _, Nat.zero_le _⟩) hD hS hA (fun H locs hP hD hS => ?_)
  refine lv_aload_n hx hb dX0_become_41 rfl (lv_at hl 0 rfl) ?_
  refine va_get (D := D) (ci := 0) (v := wv ad q_8 k0) (C := RX0) (T := TX0) (N := 10) hx hb hts iwX0_become_X0 hown hK.1 hP (13 + k0) (cw_13 hk0) rfl 9 (by decide) (hts _ lkX0_become_40) (fun _ h9 => h9) rfl dX0_become_42 ?_
  by_cases c_9 : gW q_8 k0 = true
  · rw [wv_t (σ := q_8) (k := k0) c_9]
    have hm := ifp c_9 hm
    refine lv_ifnull hx hb dX0_become_45 ?_
    refine lv_aload_n hx hb dX0_become_48 rfl (lv_at hl 0 rfl) ?_
    refine va_get (D := D) (ci := 0) (v := wv ad q_8 k0) (C := RX0) (T := TX0) (N := 10) hx hb hts iwX0_become_X0 hown hK.1 hP (13 + k0) (cw_13 hk0) rfl 9 (by decide) (hts _ lkX0_become_40) (fun _ h9 => h9) rfl dX0_become_49 ?_
    rw [wv_t (σ := q_8) (k := k0) c_9]
    refine lv_iconst (v := 0) hx hb dX0_become_52 (by decide) ?_
    obtain ⟨q_10, hq_10, hs_10⟩ := cw_18 (cy := cy) (ad := ad) (σ := q_8) (τ := (sR q_8 10 k0 (fun _ => (0 : Int32)))) hk0 c_9 (fun _ h9 => gI_Rnt h9) (fun _ h9 => gI_Rni h9) rfl rfl rfl
    rw [gI_Rat] at hs_10
    refine zc_v (zr_S [.ref (ad 18 k0), .int (0 : Int32)] [] ⟨hx, hb, hml, hown, hts⟩ (ctJ7_fill l D cy (cw cy ad q_8) q_10 (ad 18 k0) (0 : Int32) (by decide) hq_10 _) (va_cwS 2 hts gX0_become_J7_fill_53178 rfl rfl rfl (by decide +kernel) ⟨Nat.le_of_ble_eq_true rfl, Nat.le_of_ble_eq_true rfl⟩) hK hP hD rfl hl.1 rfl (Nat.le_of_ble_eq_true rfl) dX0_become_53 ⟨Nat.zero_le _, Nat.zero_le _⟩) hD hS hA (fun H locs hP hD hS => ?_)
    have hP := eP hs_10 hP
    have hD := eD hs_10 hD
    obtain ⟨σ_11, e_11, hm⟩ := sv_some hm
    have hP : va_P D vwCl (cw cy ad σ_11) H := by rw [e_11]; exact hP
    have hD : va_D A (cw cy ad σ_11) := by rw [e_11]; exact hD
    exact z_v hx hb hr hlocks hm hP hD hS dX0_become_56
  · rw [wv_f (σ := q_8) (k := k0) c_9]
    have hm := ifn c_9 hm
    refine lv_ifnullN (tgt := 56) hx hb dX0_become_45 (by decide) ?_
    exact z_v hx hb hr hlocks hm hP hD hS dX0_become_56
abbrev rmX0_changeSpread : Room := { frames := 1, cells := 0, slots := 0, locals := 22 }
theorem lkX0_changeSpread_28 : Cond.fieldLink RX0 28 "DeliveryBasket$Bond" "spread" "I" ∈ wsX0_changeSpread := by decide +kernel
theorem iwX0_changeSpread_X0 : ∀ w ∈ wsX00, w ∈ wsX0_changeSpread := fun _ h => List.mem_cons_of_mem _ (List.mem_append_right _ h)
theorem lkX0_changeSpread_iniX2 : Cond.initialized RX2 ∈ wsX0_changeSpread := by decide +kernel
theorem lkX0_changeSpread_st_X2_within : Cond.static yX2_within ∈ wsX0_changeSpread := by decide +kernel
def mX0_changeSpread (σ : ST) (k0 : Nat) (a1 : Int32) : Option (Int32 × ST) := if a1 = (gI σ 2 k0 4) then (some ((0 : Int32), σ)) else ((mX2_within a1 (-200 : Int32) (200 : Int32)).bind fun q_2 => if q_2 = (0 : Int32) then (some ((0 : Int32), σ)) else (sv (sI σ 2 k0 4 a1) fun σ_4 => some ((1 : Int32), σ_4)))
set_option maxHeartbeats 4000000 in
set_option maxRecDepth 100000 in
theorem ctX0_changeSpread (l : Launch) (D : va_G) (cy : Nat → ClassId) (ad : Nat → Nat → Nat) (σ : ST) {k0 : Nat} (hk0 : k0 < 8) (kk0 : Nat) (a1 : Int32) (q : Int32 × ST) (hm : mX0_changeSpread σ k0 a1 = some q) : zMi l yX0_changeSpread wsX0_changeSpread rmX0_changeSpread D cy [.ref (ad 13 k0), .int a1] (cw cy ad σ) q.1 (cw cy ad q.2) := by
  intro sz
  refine Met.ofW (cc := cX0_changeSpread) (maxL := 2) (ret := (some .boolean)) (by decide) rfl ?_
  intro p e s m args below meth c s₁ B hml hv
  obtain ⟨rfl, hsz, hP, hK, hD0⟩ := hv
  have hx := B.exec
  have hb := B.bytes
  have hr := B.returns
  have hts := atoms_spec (ws := wsX0_changeSpread) B.pre
  have hown : s.vm.findClass RX0 = some m.cls := findClass_of_methodNamed B.named
  have hlocks := B.notSynchronized
  subst hsz
  have hD := hD0.self (sz := s.heap.size)
  generalize hAe : va_A (cw cy ad σ) s.heap.size = A at hD ⊢
  have hA : ∀ q : Nat, s.heap.size ≤ q → A q := fun q h => by rw [← hAe]; exact Or.inr h
  have hS : va_S A s.heap s.heap [] := va_S.rf
  have C : Cx p s m _ meth c cX0_changeSpread 2 (some .boolean) RX0 wsX0_changeSpread D cy A := ⟨hx, hb, hml, hown, hts, hr, hlocks, hK, hA⟩
  have hl := lv_entry ([.ref (ad 13 k0), .int a1]) (n := 2) (Nat.le_of_ble_eq_true rfl)
  rw [lg_entry_eq]
  generalize (lg_sl ([.ref (ad 13 k0), .int a1]) ++ List.replicate (2 - (lg_sl ([.ref (ad 13 k0), .int a1])).length) Slot.unset).toArray = ls at hl ⊢
  have hl : lv_has ls 2 [(0, .ref (ad 13 k0)), (1, .int a1)] := hl
  unfold mX0_changeSpread at hm
  refine lv_iload_n hx hb dX0_changeSpread_0 rfl (lv_at hl 1 rfl) ?_
  refine lv_aload_n hx hb dX0_changeSpread_1 rfl (lv_at hl 0 rfl) ?_
  refine va_get (D := D) (ci := 0) (v := .int (gI σ 2 k0 4)) (C := RX0) (T := TX0) (N := 10) hx hb hts iwX0_changeSpread_X0 hown hK.1 hP (13 + k0) (cw_13 hk0) rfl 4 (by decide) (hts _ lkX0_changeSpread_28) (fun _ h9 => h9) rfl dX0_changeSpread_2 ?_
  refine lv_icmp_eq (tgt := 21) hx hb dX0_changeSpread_5 (by decide) (fun c_1 => ?_) (fun c_1 => ?_)
  · have hm := ifp c_1 hm
    refine lv_iconst (v := 0) hx hb dX0_changeSpread_21 (by decide) ?_
    exact z_z hx hb hr hlocks (by decide) hm hP hD hS dX0_changeSpread_22
  · have hm := ifn c_1 hm
    refine lv_iload_n hx hb dX0_changeSpread_8 rfl (lv_at hl 1 rfl) ?_
    refine lv_sipush (v := -200) hx hb dX0_changeSpread_9 (by decide) ?_
    refine lv_sipush (v := 200) hx hb dX0_changeSpread_12 (by decide) ?_
    obtain ⟨q_2, hq_2, hm⟩ := ob hm
    refine zc_i (zr_N [.int a1, .int (-200 : Int32), .int (200 : Int32)] [] ⟨hx, hb, hml, hown, hts⟩ (ctX2_within l D cy (cw cy ad σ)  a1 (-200 : Int32) (200 : Int32) q_2 hq_2 _) ⟨va_cnB 3 hts gX0_changeSpread_X2_within_n60 rfl rfl rfl hK.2.1 (hts _ lkX0_changeSpread_iniX2) (by decide +kernel) ⟨Nat.le_of_ble_eq_true rfl, Nat.le_of_ble_eq_true rfl⟩, (hts _ lkX0_changeSpread_st_X2_within), trivial⟩ hK hP hD rfl hl.1 rfl (Nat.le_of_ble_eq_true rfl) dX0_changeSpread_15 ⟨Nat.zero_le _, Nat.zero_le _⟩) hD hS hA (fun H locs hP hD hS => ?_)
    refine lv_if_ne (tgt := 23) hx hb dX0_changeSpread_18 (by decide) (fun c_3 => ?_) (fun c_3 => ?_)
    · have hm := ifn c_3 hm
      refine lv_aload_n hx hb dX0_changeSpread_23 rfl (lv_at hl 0 rfl) ?_
      refine lv_iload_n hx hb dX0_changeSpread_24 rfl (lv_at hl 1 rfl) ?_
      refine va_put (D := D) (ci := 0) (v := .int a1) (ty := .int) (C := RX0) (T := TX0) (N := 10) hx hb hts iwX0_changeSpread_X0 tyX0 tyX0_ok nmX0 hown hK.1 hP hD hS (13 + k0) (cw_13 hk0) rfl 4 (by decide) (hts _ lkX0_changeSpread_28) (fun _ h9 => h9) rfl (by decide +kernel) rfl rfl (Nat.le_of_ble_eq_true rfl) dX0_changeSpread_25 (fun H locs hP hD hS => ?_)
      have hP := eP (cw_s13 (σ := σ) (j := 4) (v := a1) (by simp [gI_sI]) hk0) hP
      have hD := eD (cw_s13 (σ := σ) (j := 4) (v := a1) (by simp [gI_sI]) hk0) hD
      obtain ⟨σ_4, e_4, hm⟩ := sv_some hm
      have hP : va_P D vwCl (cw cy ad σ_4) H := by rw [e_4]; exact hP
      have hD : va_D A (cw cy ad σ_4) := by rw [e_4]; exact hD
      refine lv_iconst (v := 1) hx hb dX0_changeSpread_28 (by decide) ?_
      exact z_z hx hb hr hlocks (by decide) hm hP hD hS dX0_changeSpread_29
    · have hm := ifp c_3 hm
      refine lv_iconst (v := 0) hx hb dX0_changeSpread_21 (by decide) ?_
      exact z_z hx hb hr hlocks (by decide) hm hP hD hS dX0_changeSpread_22
abbrev rmX0_changeStock : Room := { frames := 1, cells := 0, slots := 0, locals := 22 }
theorem lkX0_changeStock_31 : Cond.fieldLink RX0 31 "DeliveryBasket$Bond" "stock" "I" ∈ wsX0_changeStock := by decide +kernel
theorem iwX0_changeStock_X0 : ∀ w ∈ wsX00, w ∈ wsX0_changeStock := fun _ h => List.mem_cons_of_mem _ (List.mem_append_right _ h)
theorem lkX0_changeStock_iniX2 : Cond.initialized RX2 ∈ wsX0_changeStock := by decide +kernel
theorem lkX0_changeStock_st_X2_within : Cond.static yX2_within ∈ wsX0_changeStock := by decide +kernel
def mX0_changeStock (σ : ST) (k0 : Nat) (a1 : Int32) : Option (Int32 × ST) := if a1 = (gI σ 2 k0 5) then (some ((0 : Int32), σ)) else ((mX2_within a1 (0 : Int32) (99 : Int32)).bind fun q_2 => if q_2 = (0 : Int32) then (some ((0 : Int32), σ)) else (sv (sI σ 2 k0 5 a1) fun σ_4 => some ((1 : Int32), σ_4)))
set_option maxHeartbeats 4000000 in
set_option maxRecDepth 100000 in
theorem ctX0_changeStock (l : Launch) (D : va_G) (cy : Nat → ClassId) (ad : Nat → Nat → Nat) (σ : ST) {k0 : Nat} (hk0 : k0 < 8) (kk0 : Nat) (a1 : Int32) (q : Int32 × ST) (hm : mX0_changeStock σ k0 a1 = some q) : zMi l yX0_changeStock wsX0_changeStock rmX0_changeStock D cy [.ref (ad 13 k0), .int a1] (cw cy ad σ) q.1 (cw cy ad q.2) := by
  intro sz
  refine Met.ofW (cc := cX0_changeStock) (maxL := 2) (ret := (some .boolean)) (by decide) rfl ?_
  intro p e s m args below meth c s₁ B hml hv
  obtain ⟨rfl, hsz, hP, hK, hD0⟩ := hv
  have hx := B.exec
  have hb := B.bytes
  have hr := B.returns
  have hts := atoms_spec (ws := wsX0_changeStock) B.pre
  have hown : s.vm.findClass RX0 = some m.cls := findClass_of_methodNamed B.named
  have hlocks := B.notSynchronized
  subst hsz
  have hD := hD0.self (sz := s.heap.size)
  generalize hAe : va_A (cw cy ad σ) s.heap.size = A at hD ⊢
  have hA : ∀ q : Nat, s.heap.size ≤ q → A q := fun q h => by rw [← hAe]; exact Or.inr h
  have hS : va_S A s.heap s.heap [] := va_S.rf
  have C : Cx p s m _ meth c cX0_changeStock 2 (some .boolean) RX0 wsX0_changeStock D cy A := ⟨hx, hb, hml, hown, hts, hr, hlocks, hK, hA⟩
  have hl := lv_entry ([.ref (ad 13 k0), .int a1]) (n := 2) (Nat.le_of_ble_eq_true rfl)
  rw [lg_entry_eq]
  generalize (lg_sl ([.ref (ad 13 k0), .int a1]) ++ List.replicate (2 - (lg_sl ([.ref (ad 13 k0), .int a1])).length) Slot.unset).toArray = ls at hl ⊢
  have hl : lv_has ls 2 [(0, .ref (ad 13 k0)), (1, .int a1)] := hl
  unfold mX0_changeStock at hm
  refine lv_iload_n hx hb dX0_changeStock_0 rfl (lv_at hl 1 rfl) ?_
  refine lv_aload_n hx hb dX0_changeStock_1 rfl (lv_at hl 0 rfl) ?_
  refine va_get (D := D) (ci := 0) (v := .int (gI σ 2 k0 5)) (C := RX0) (T := TX0) (N := 10) hx hb hts iwX0_changeStock_X0 hown hK.1 hP (13 + k0) (cw_13 hk0) rfl 5 (by decide) (hts _ lkX0_changeStock_31) (fun _ h9 => h9) rfl dX0_changeStock_2 ?_
  refine lv_icmp_eq (tgt := 18) hx hb dX0_changeStock_5 (by decide) (fun c_1 => ?_) (fun c_1 => ?_)
  · have hm := ifp c_1 hm
    refine lv_iconst (v := 0) hx hb dX0_changeStock_18 (by decide) ?_
    exact z_z hx hb hr hlocks (by decide) hm hP hD hS dX0_changeStock_19
  · have hm := ifn c_1 hm
    refine lv_iload_n hx hb dX0_changeStock_8 rfl (lv_at hl 1 rfl) ?_
    refine lv_iconst (v := 0) hx hb dX0_changeStock_9 (by decide) ?_
    refine lv_bipush (v := 99) hx hb dX0_changeStock_10 (by decide) ?_
    obtain ⟨q_2, hq_2, hm⟩ := ob hm
    refine zc_i (zr_N [.int a1, .int (0 : Int32), .int (99 : Int32)] [] ⟨hx, hb, hml, hown, hts⟩ (ctX2_within l D cy (cw cy ad σ)  a1 (0 : Int32) (99 : Int32) q_2 hq_2 _) ⟨va_cnB 3 hts gX0_changeStock_X2_within_n60 rfl rfl rfl hK.2.1 (hts _ lkX0_changeStock_iniX2) (by decide +kernel) ⟨Nat.le_of_ble_eq_true rfl, Nat.le_of_ble_eq_true rfl⟩, (hts _ lkX0_changeStock_st_X2_within), trivial⟩ hK hP hD rfl hl.1 rfl (Nat.le_of_ble_eq_true rfl) dX0_changeStock_12 ⟨Nat.zero_le _, Nat.zero_le _⟩) hD hS hA (fun H locs hP hD hS => ?_)
    refine lv_if_ne (tgt := 20) hx hb dX0_changeStock_15 (by decide) (fun c_3 => ?_) (fun c_3 => ?_)
    · have hm := ifn c_3 hm
      refine lv_aload_n hx hb dX0_changeStock_20 rfl (lv_at hl 0 rfl) ?_
      refine lv_iload_n hx hb dX0_changeStock_21 rfl (lv_at hl 1 rfl) ?_
      refine va_put (D := D) (ci := 0) (v := .int a1) (ty := .int) (C := RX0) (T := TX0) (N := 10) hx hb hts iwX0_changeStock_X0 tyX0 tyX0_ok nmX0 hown hK.1 hP hD hS (13 + k0) (cw_13 hk0) rfl 5 (by decide) (hts _ lkX0_changeStock_31) (fun _ h9 => h9) rfl (by decide +kernel) rfl rfl (Nat.le_of_ble_eq_true rfl) dX0_changeStock_22 (fun H locs hP hD hS => ?_)
      have hP := eP (cw_s13 (σ := σ) (j := 5) (v := a1) (by simp [gI_sI]) hk0) hP
      have hD := eD (cw_s13 (σ := σ) (j := 5) (v := a1) (by simp [gI_sI]) hk0) hD
      obtain ⟨σ_4, e_4, hm⟩ := sv_some hm
      have hP : va_P D vwCl (cw cy ad σ_4) H := by rw [e_4]; exact hP
      have hD : va_D A (cw cy ad σ_4) := by rw [e_4]; exact hD
      refine lv_iconst (v := 1) hx hb dX0_changeStock_25 (by decide) ?_
      exact z_z hx hb hr hlocks (by decide) hm hP hD hS dX0_changeStock_26
    · have hm := ifp c_3 hm
      refine lv_iconst (v := 0) hx hb dX0_changeStock_18 (by decide) ?_
      exact z_z hx hb hr hlocks (by decide) hm hP hD hS dX0_changeStock_19
abbrev rmX0_changeBarred : Room := { frames := 1, cells := 0, slots := 0, locals := 22 }
theorem lkX0_changeBarred_34 : Cond.fieldLink RX0 34 "DeliveryBasket$Bond" "barred" "I" ∈ wsX0_changeBarred := by decide +kernel
theorem iwX0_changeBarred_X0 : ∀ w ∈ wsX00, w ∈ wsX0_changeBarred := fun _ h => List.mem_cons_of_mem _ (List.mem_append_right _ h)
theorem lkX0_changeBarred_iniX2 : Cond.initialized RX2 ∈ wsX0_changeBarred := by decide +kernel
theorem lkX0_changeBarred_st_X2_within : Cond.static yX2_within ∈ wsX0_changeBarred := by decide +kernel
def mX0_changeBarred (σ : ST) (k0 : Nat) (a1 : Int32) : Option (Int32 × ST) := if a1 = (gI σ 2 k0 6) then (some ((0 : Int32), σ)) else ((mX2_within a1 (0 : Int32) (1 : Int32)).bind fun q_2 => if q_2 = (0 : Int32) then (some ((0 : Int32), σ)) else (sv (sI σ 2 k0 6 a1) fun σ_4 => some ((1 : Int32), σ_4)))
set_option maxHeartbeats 4000000 in
set_option maxRecDepth 100000 in
theorem ctX0_changeBarred (l : Launch) (D : va_G) (cy : Nat → ClassId) (ad : Nat → Nat → Nat) (σ : ST) {k0 : Nat} (hk0 : k0 < 8) (kk0 : Nat) (a1 : Int32) (q : Int32 × ST) (hm : mX0_changeBarred σ k0 a1 = some q) : zMi l yX0_changeBarred wsX0_changeBarred rmX0_changeBarred D cy [.ref (ad 13 k0), .int a1] (cw cy ad σ) q.1 (cw cy ad q.2) := by
  intro sz
  refine Met.ofW (cc := cX0_changeBarred) (maxL := 2) (ret := (some .boolean)) (by decide) rfl ?_
  intro p e s m args below meth c s₁ B hml hv
  obtain ⟨rfl, hsz, hP, hK, hD0⟩ := hv
  have hx := B.exec
  have hb := B.bytes
  have hr := B.returns
  have hts := atoms_spec (ws := wsX0_changeBarred) B.pre
  have hown : s.vm.findClass RX0 = some m.cls := findClass_of_methodNamed B.named
  have hlocks := B.notSynchronized
  subst hsz
  have hD := hD0.self (sz := s.heap.size)
  generalize hAe : va_A (cw cy ad σ) s.heap.size = A at hD ⊢
  have hA : ∀ q : Nat, s.heap.size ≤ q → A q := fun q h => by rw [← hAe]; exact Or.inr h
  have hS : va_S A s.heap s.heap [] := va_S.rf
  have C : Cx p s m _ meth c cX0_changeBarred 2 (some .boolean) RX0 wsX0_changeBarred D cy A := ⟨hx, hb, hml, hown, hts, hr, hlocks, hK, hA⟩
  have hl := lv_entry ([.ref (ad 13 k0), .int a1]) (n := 2) (Nat.le_of_ble_eq_true rfl)
  rw [lg_entry_eq]
  generalize (lg_sl ([.ref (ad 13 k0), .int a1]) ++ List.replicate (2 - (lg_sl ([.ref (ad 13 k0), .int a1])).length) Slot.unset).toArray = ls at hl ⊢
  have hl : lv_has ls 2 [(0, .ref (ad 13 k0)), (1, .int a1)] := hl
  unfold mX0_changeBarred at hm
  refine lv_iload_n hx hb dX0_changeBarred_0 rfl (lv_at hl 1 rfl) ?_
  refine lv_aload_n hx hb dX0_changeBarred_1 rfl (lv_at hl 0 rfl) ?_
  refine va_get (D := D) (ci := 0) (v := .int (gI σ 2 k0 6)) (C := RX0) (T := TX0) (N := 10) hx hb hts iwX0_changeBarred_X0 hown hK.1 hP (13 + k0) (cw_13 hk0) rfl 6 (by decide) (hts _ lkX0_changeBarred_34) (fun _ h9 => h9) rfl dX0_changeBarred_2 ?_
  refine lv_icmp_eq (tgt := 17) hx hb dX0_changeBarred_5 (by decide) (fun c_1 => ?_) (fun c_1 => ?_)
  · have hm := ifp c_1 hm
    refine lv_iconst (v := 0) hx hb dX0_changeBarred_17 (by decide) ?_
    exact z_z hx hb hr hlocks (by decide) hm hP hD hS dX0_changeBarred_18
  · have hm := ifn c_1 hm
    refine lv_iload_n hx hb dX0_changeBarred_8 rfl (lv_at hl 1 rfl) ?_
    refine lv_iconst (v := 0) hx hb dX0_changeBarred_9 (by decide) ?_
    refine lv_iconst (v := 1) hx hb dX0_changeBarred_10 (by decide) ?_
    obtain ⟨q_2, hq_2, hm⟩ := ob hm
    refine zc_i (zr_N [.int a1, .int (0 : Int32), .int (1 : Int32)] [] ⟨hx, hb, hml, hown, hts⟩ (ctX2_within l D cy (cw cy ad σ)  a1 (0 : Int32) (1 : Int32) q_2 hq_2 _) ⟨va_cnB 3 hts gX0_changeBarred_X2_within_n60 rfl rfl rfl hK.2.1 (hts _ lkX0_changeBarred_iniX2) (by decide +kernel) ⟨Nat.le_of_ble_eq_true rfl, Nat.le_of_ble_eq_true rfl⟩, (hts _ lkX0_changeBarred_st_X2_within), trivial⟩ hK hP hD rfl hl.1 rfl (Nat.le_of_ble_eq_true rfl) dX0_changeBarred_11 ⟨Nat.zero_le _, Nat.zero_le _⟩) hD hS hA (fun H locs hP hD hS => ?_)
    refine lv_if_ne (tgt := 19) hx hb dX0_changeBarred_14 (by decide) (fun c_3 => ?_) (fun c_3 => ?_)
    · have hm := ifn c_3 hm
      refine lv_aload_n hx hb dX0_changeBarred_19 rfl (lv_at hl 0 rfl) ?_
      refine lv_iload_n hx hb dX0_changeBarred_20 rfl (lv_at hl 1 rfl) ?_
      refine va_put (D := D) (ci := 0) (v := .int a1) (ty := .int) (C := RX0) (T := TX0) (N := 10) hx hb hts iwX0_changeBarred_X0 tyX0 tyX0_ok nmX0 hown hK.1 hP hD hS (13 + k0) (cw_13 hk0) rfl 6 (by decide) (hts _ lkX0_changeBarred_34) (fun _ h9 => h9) rfl (by decide +kernel) rfl rfl (Nat.le_of_ble_eq_true rfl) dX0_changeBarred_21 (fun H locs hP hD hS => ?_)
      have hP := eP (cw_s13 (σ := σ) (j := 6) (v := a1) (by simp [gI_sI]) hk0) hP
      have hD := eD (cw_s13 (σ := σ) (j := 6) (v := a1) (by simp [gI_sI]) hk0) hD
      obtain ⟨σ_4, e_4, hm⟩ := sv_some hm
      have hP : va_P D vwCl (cw cy ad σ_4) H := by rw [e_4]; exact hP
      have hD : va_D A (cw cy ad σ_4) := by rw [e_4]; exact hD
      refine lv_iconst (v := 1) hx hb dX0_changeBarred_24 (by decide) ?_
      exact z_z hx hb hr hlocks (by decide) hm hP hD hS dX0_changeBarred_25
    · have hm := ifp c_3 hm
      refine lv_iconst (v := 0) hx hb dX0_changeBarred_17 (by decide) ?_
      exact z_z hx hb hr hlocks (by decide) hm hP hD hS dX0_changeBarred_18
abbrev rmX0_discounted : Room := { frames := 0, cells := 0, slots := 0, locals := 0 }
theorem lkX0_discounted_9 : Cond.fieldLink RX0 9 "DeliveryBasket$Bond" "flows" "[I" ∈ wsX0_discounted := by decide +kernel
theorem iwX0_discounted_X0 : ∀ w ∈ wsX00, w ∈ wsX0_discounted := fun _ h => List.mem_cons_of_mem _ (List.mem_append_right _ h)
theorem lkX0_discounted_58 : Cond.constantLong RX0 58 (10000) ∈ wsX0_discounted := by decide +kernel
theorem lkX0_discounted_22 : Cond.fieldLink RX0 22 "DeliveryBasket$Bond" "periods" "I" ∈ wsX0_discounted := by decide +kernel
def bkX0_discounted_20 (σ : ST)  (rec : Nat × Int32 × Int64 × Int32 → Option (Int32)) (k0 : Nat) (x2 : Int32) (x3 : Int64) (x5 : Int32) : Option (Int32) := gd (decide (k0 < 8)) (if x5 < (1 : Int32) then (some (Int64.toInt32 x3)) else (gd (inb x5 41) (gd (nzl (Int32.toInt64 x2)) (rec (k0, x2, (((x3 + (Int32.toInt64 (gI σ 3 k0 (Int32.toNatClampNeg x5)))) * (10000 : Int64)) / (Int32.toInt64 x2)), (x5 + (-1 : Int32)))))))
def kX0_discounted_20 (σ : ST)  (n : Nat) (a : Nat × Int32 × Int64 × Int32) : Option (Int32) := fx (fun rec a => bkX0_discounted_20 σ  rec a.1 a.2.1 a.2.2.1 a.2.2.2) n a
set_option maxHeartbeats 4000000 in
set_option maxRecDepth 100000 in
theorem kX0_discounted_20_ok {p : Program} {l : Launch} {e : Env} {s : State} {m : MethodId} {args : Array Value} {below : List Frame} {meth : Method} {c : Code} {D : va_G} {cy : Nat → ClassId} {ad : Nat → Nat → Nat} {A : Nat → Prop} (C : Cx p s m args meth c cX0_discounted 6 (some .int) RX0 wsX0_discounted D cy A) (q : Int32) (σ : ST) : ∀ (n : Nat) (k0 : Nat) (x2 : Int32) (x3 : Int64) (x5 : Int32), ∀ (H : Heap) (locs : List Loc), va_P D vwCl (cw cy ad σ) H → va_D A (cw cy ad σ) → va_S A s.heap H locs → ∀ ls : Array Slot, lv_has ls 6 [(0, .ref (ad 13 k0)), (2, .int x2), (3, .long x3), (5, .int x5)] → kX0_discounted_20 σ n (k0, x2, x3, x5) = some q → W p l e rmX0_discounted s m args below meth c H locs 0 0 (MQ below (zQi D (cw cy ad σ) A q) args s 0 0 A) (F0 m 20 ls []) := by
  obtain ⟨hx, hb, hml, hown, hts, hr, hlocks, hK, hA⟩ := id C
  intro n
  induction n with
  | zero => intro k0 x2 x3 x5 H locs hP hD hS ls hl hm; cases hm
  | succ n ih =>
    intro k0 x2 x3 x5 H locs hP hD hS ls hl hm
    have hm : bkX0_discounted_20 σ  (kX0_discounted_20 σ n) k0 x2 x3 x5 = some q := hm
    unfold bkX0_discounted_20 at hm
    obtain ⟨hk_k0, hm⟩ := gd_some hm
    have hk_k0 := lt_of_dec hk_k0
    refine lv_iload hx hb dX0_discounted_20 (lv_at hl 3 rfl) ?_
    refine lv_iconst (v := 1) hx hb dX0_discounted_22 (by decide) ?_
    refine lv_icmp_lt (tgt := 50) hx hb dX0_discounted_23 (by decide) (fun c_1 => ?_) (fun c_1 => ?_)
    · have hm := ifp c_1 hm
      refine lv_lload_n hx hb dX0_discounted_50 rfl (lv_at hl 2 rfl) ?_
      refine lv_l2i hx hb dX0_discounted_51 rfl ?_
      exact z_pi hx hb hr hlocks hm hP hD hS dX0_discounted_52
    · have hm := ifn c_1 hm
      refine lv_lload_n hx hb dX0_discounted_26 rfl (lv_at hl 2 rfl) ?_
      refine lv_aload_n hx hb dX0_discounted_27 rfl (lv_at hl 0 rfl) ?_
      refine va_get (D := D) (ci := 0) (v := .ref (ad 14 k0)) (C := RX0) (T := TX0) (N := 10) hx hb hts iwX0_discounted_X0 hown hK.1 hP (13 + k0) (cw_13 hk_k0) rfl 8 (by decide) (hts _ lkX0_discounted_9) (fun _ h9 => h9) rfl dX0_discounted_28 ?_
      refine lv_iload hx hb dX0_discounted_31 (lv_at hl 3 rfl) ?_
      obtain ⟨h_2, hm⟩ := gd_some hm
      refine va_iald hx hb hK.1 hP (13 + (8 + k0)) 0 (cw_14 hk_k0) rfl (inb_vp h_2) dX0_discounted_33 ?_
      refine lv_i2l hx hb dX0_discounted_34 rfl ?_
      refine lv_ladd hx hb dX0_discounted_35 ?_
      refine lv_ldc2 (v := 10000) hx hb hown (hts _ lkX0_discounted_58) dX0_discounted_36 ?_
      refine lv_lmul hx hb dX0_discounted_39 ?_
      refine lv_iload_n hx hb dX0_discounted_40 rfl (lv_at hl 1 rfl) ?_
      refine lv_i2l hx hb dX0_discounted_41 rfl ?_
      obtain ⟨h_3, hm⟩ := gd_some hm
      refine lv_ldiv hx hb dX0_discounted_42 (nzl_n h_3) ?_
      refine lv_lstore_n (lv' := [(3, .long (((x3 + (Int32.toInt64 (gI σ 3 k0 (Int32.toNatClampNeg x5)))) * (10000 : Int64)) / (Int32.toInt64 x2))), (0, .ref (ad 13 k0)), (2, .int x2), (5, .int x5)]) hx hb dX0_discounted_43 rfl hl (by decide) rfl (fun ls hl => ?_)
      refine lv_iinc (v := (x5 + (-1 : Int32))) (lv' := [(5, .int (x5 + (-1 : Int32))), (3, .long (((x3 + (Int32.toInt64 (gI σ 3 k0 (Int32.toNatClampNeg x5)))) * (10000 : Int64)) / (Int32.toInt64 x2))), (0, .ref (ad 13 k0)), (2, .int x2)]) hx hb dX0_discounted_44 hl (k := 3) rfl rfl (by decide) rfl (fun ls hl => ?_)
      refine lv_goto (tgt := 20) hx hb dX0_discounted_47 (by decide) ?_
      exact ih k0 x2 (((x3 + (Int32.toInt64 (gI σ 3 k0 (Int32.toNatClampNeg x5)))) * (10000 : Int64)) / (Int32.toInt64 x2)) (x5 + (-1 : Int32)) _ _ hP hD hS _ (lv_sub hl [2, 3, 1, 0] rfl) hm
def mX0_discounted (σ : ST) (k0 : Nat) (a1 : Int32) : Option (Int32) := if (0 : Int32) < ((10000 : Int32) + a1) then (kX0_discounted_20 σ FU (k0, ((10000 : Int32) + a1), (0 : Int64), (gI σ 2 k0 2))) else (some (0 : Int32))
set_option maxHeartbeats 4000000 in
set_option maxRecDepth 100000 in
theorem ctX0_discounted (l : Launch) (D : va_G) (cy : Nat → ClassId) (ad : Nat → Nat → Nat) (σ : ST) {k0 : Nat} (hk0 : k0 < 8) (kk0 : Nat) (a1 : Int32) (q : Int32) (hm : mX0_discounted σ k0 a1 = some q) : zMi l yX0_discounted wsX0_discounted rmX0_discounted D cy [.ref (ad 13 k0), .int a1] (cw cy ad σ) q (cw cy ad σ) := by
  intro sz
  refine Met.ofW (cc := cX0_discounted) (maxL := 6) (ret := (some .int)) (by decide) rfl ?_
  intro p e s m args below meth c s₁ B hml hv
  obtain ⟨rfl, hsz, hP, hK, hD0⟩ := hv
  have hx := B.exec
  have hb := B.bytes
  have hr := B.returns
  have hts := atoms_spec (ws := wsX0_discounted) B.pre
  have hown : s.vm.findClass RX0 = some m.cls := findClass_of_methodNamed B.named
  have hlocks := B.notSynchronized
  subst hsz
  have hD := hD0.self (sz := s.heap.size)
  generalize hAe : va_A (cw cy ad σ) s.heap.size = A at hD ⊢
  have hA : ∀ q : Nat, s.heap.size ≤ q → A q := fun q h => by rw [← hAe]; exact Or.inr h
  have hS : va_S A s.heap s.heap [] := va_S.rf
  have C : Cx p s m _ meth c cX0_discounted 6 (some .int) RX0 wsX0_discounted D cy A := ⟨hx, hb, hml, hown, hts, hr, hlocks, hK, hA⟩
  have hl := lv_entry ([.ref (ad 13 k0), .int a1]) (n := 6) (Nat.le_of_ble_eq_true rfl)
  rw [lg_entry_eq]
  generalize (lg_sl ([.ref (ad 13 k0), .int a1]) ++ List.replicate (6 - (lg_sl ([.ref (ad 13 k0), .int a1])).length) Slot.unset).toArray = ls at hl ⊢
  have hl : lv_has ls 6 [(0, .ref (ad 13 k0)), (1, .int a1)] := hl
  unfold mX0_discounted at hm
  refine lv_sipush (v := 10000) hx hb dX0_discounted_0 (by decide) ?_
  refine lv_iload_n hx hb dX0_discounted_3 rfl (lv_at hl 1 rfl) ?_
  refine lv_iadd hx hb dX0_discounted_4 ?_
  refine lv_istore_n (lv' := [(2, .int ((10000 : Int32) + a1)), (0, .ref (ad 13 k0)), (1, .int a1)]) hx hb dX0_discounted_5 rfl hl (by decide) rfl (fun ls hl => ?_)
  refine lv_iload_n hx hb dX0_discounted_6 rfl (lv_at hl 0 rfl) ?_
  refine lv_if_gt (tgt := 12) hx hb dX0_discounted_7 (by decide) (fun c_4 => ?_) (fun c_4 => ?_)
  · have hm := ifp c_4 hm
    refine lv_lconst (v := 0) hx hb dX0_discounted_12 (by decide) ?_
    refine lv_lstore_n (lv' := [(3, .long (0 : Int64)), (2, .int ((10000 : Int32) + a1)), (0, .ref (ad 13 k0)), (1, .int a1)]) hx hb dX0_discounted_13 rfl hl (by decide) rfl (fun ls hl => ?_)
    refine lv_aload_n hx hb dX0_discounted_14 rfl (lv_at hl 2 rfl) ?_
    refine va_get (D := D) (ci := 0) (v := .int (gI σ 2 k0 2)) (C := RX0) (T := TX0) (N := 10) hx hb hts iwX0_discounted_X0 hown hK.1 hP (13 + k0) (cw_13 hk0) rfl 2 (by decide) (hts _ lkX0_discounted_22) (fun _ h9 => h9) rfl dX0_discounted_15 ?_
    refine lv_istore (lv' := [(5, .int (gI σ 2 k0 2)), (3, .long (0 : Int64)), (2, .int ((10000 : Int32) + a1)), (0, .ref (ad 13 k0)), (1, .int a1)]) hx hb dX0_discounted_18 hl (by decide) rfl (fun ls hl => ?_)
    exact kX0_discounted_20_ok C q σ FU k0 ((10000 : Int32) + a1) (0 : Int64) (gI σ 2 k0 2) _ _ hP hD hS _ (lv_sub hl [3, 2, 1, 0] rfl) hm
  · have hm := ifn c_4 hm
    refine lv_iconst (v := 0) hx hb dX0_discounted_10 (by decide) ?_
    exact z_pi hx hb hr hlocks hm hP hD hS dX0_discounted_11
abbrev rmX0_worthAt : Room := { frames := 1, cells := 0, slots := 0, locals := 25 }
theorem lkX0_worthAt_40 : Cond.fieldLink RX0 40 "DeliveryBasket$Bond" "worths" "[I" ∈ wsX0_worthAt := by decide +kernel
theorem iwX0_worthAt_X0 : ∀ w ∈ wsX00, w ∈ wsX0_worthAt := fun _ h => List.mem_cons_of_mem _ (List.mem_append_right _ h)
theorem lkX0_worthAt_iniX2 : Cond.initialized RX2 ∈ wsX0_worthAt := by decide +kernel
theorem lkX0_worthAt_st_X2_within : Cond.static yX2_within ∈ wsX0_worthAt := by decide +kernel
def mX0_worthAt (σ : ST) (k0 : Nat) (a1 : Int32) : Option (Int32 × ST) := if gW σ k0 = true then ((mX2_within a1 (0 : Int32) (3200 : Int32)).bind fun q_2 => if q_2 = (0 : Int32) then ((mX0_discounted σ k0 a1).bind fun q_11 => some (q_11, σ)) else (gd (inb a1 3201) (if (gI σ 10 k0 (Int32.toNatClampNeg a1)) = (0 : Int32) then ((mX0_discounted σ k0 a1).bind fun q_7 => gd (inb a1 3201) (sv (sI σ 10 k0 (Int32.toNatClampNeg a1) q_7) fun σ_9 => gd (inb a1 3201) (some ((gI σ_9 10 k0 (Int32.toNatClampNeg a1)), σ_9)))) else (gd (inb a1 3201) (some ((gI σ 10 k0 (Int32.toNatClampNeg a1)), σ)))))) else ((mX0_discounted σ k0 a1).bind fun q_12 => some (q_12, σ))
set_option maxHeartbeats 4000000 in
set_option maxRecDepth 100000 in
theorem ctX0_worthAt (l : Launch) (D : va_G) (cy : Nat → ClassId) (ad : Nat → Nat → Nat) (σ : ST) {k0 : Nat} (hk0 : k0 < 8) (kk0 : Nat) (a1 : Int32) (q : Int32 × ST) (hm : mX0_worthAt σ k0 a1 = some q) : zMi l yX0_worthAt wsX0_worthAt rmX0_worthAt D cy [.ref (ad 13 k0), .int a1] (cw cy ad σ) q.1 (cw cy ad q.2) := by
  intro sz
  refine Met.ofW (cc := cX0_worthAt) (maxL := 2) (ret := (some .int)) (by decide) rfl ?_
  intro p e s m args below meth c s₁ B hml hv
  obtain ⟨rfl, hsz, hP, hK, hD0⟩ := hv
  have hx := B.exec
  have hb := B.bytes
  have hr := B.returns
  have hts := atoms_spec (ws := wsX0_worthAt) B.pre
  have hown : s.vm.findClass RX0 = some m.cls := findClass_of_methodNamed B.named
  have hlocks := B.notSynchronized
  subst hsz
  have hD := hD0.self (sz := s.heap.size)
  generalize hAe : va_A (cw cy ad σ) s.heap.size = A at hD ⊢
  have hA : ∀ q : Nat, s.heap.size ≤ q → A q := fun q h => by rw [← hAe]; exact Or.inr h
  have hS : va_S A s.heap s.heap [] := va_S.rf
  have C : Cx p s m _ meth c cX0_worthAt 2 (some .int) RX0 wsX0_worthAt D cy A := ⟨hx, hb, hml, hown, hts, hr, hlocks, hK, hA⟩
  have hl := lv_entry ([.ref (ad 13 k0), .int a1]) (n := 2) (Nat.le_of_ble_eq_true rfl)
  rw [lg_entry_eq]
  generalize (lg_sl ([.ref (ad 13 k0), .int a1]) ++ List.replicate (2 - (lg_sl ([.ref (ad 13 k0), .int a1])).length) Slot.unset).toArray = ls at hl ⊢
  have hl : lv_has ls 2 [(0, .ref (ad 13 k0)), (1, .int a1)] := hl
  unfold mX0_worthAt at hm
  refine lv_aload_n hx hb dX0_worthAt_0 rfl (lv_at hl 0 rfl) ?_
  refine va_get (D := D) (ci := 0) (v := wv ad σ k0) (C := RX0) (T := TX0) (N := 10) hx hb hts iwX0_worthAt_X0 hown hK.1 hP (13 + k0) (cw_13 hk0) rfl 9 (by decide) (hts _ lkX0_worthAt_40) (fun _ h9 => h9) rfl dX0_worthAt_1 ?_
  by_cases c_1 : gW σ k0 = true
  · rw [wv_t (σ := σ) (k := k0) c_1]
    have hm := ifp c_1 hm
    refine lv_ifnull hx hb dX0_worthAt_4 ?_
    refine lv_iload_n hx hb dX0_worthAt_7 rfl (lv_at hl 1 rfl) ?_
    refine lv_iconst (v := 0) hx hb dX0_worthAt_8 (by decide) ?_
    refine lv_sipush (v := 3200) hx hb dX0_worthAt_9 (by decide) ?_
    obtain ⟨q_2, hq_2, hm⟩ := ob hm
    refine zc_i (zr_N [.int a1, .int (0 : Int32), .int (3200 : Int32)] [] ⟨hx, hb, hml, hown, hts⟩ (ctX2_within l D cy (cw cy ad σ)  a1 (0 : Int32) (3200 : Int32) q_2 hq_2 _) ⟨va_cnB 3 hts gX0_worthAt_X2_within_n60 rfl rfl rfl hK.2.1 (hts _ lkX0_worthAt_iniX2) (by decide +kernel) ⟨Nat.le_of_ble_eq_true rfl, Nat.le_of_ble_eq_true rfl⟩, (hts _ lkX0_worthAt_st_X2_within), trivial⟩ hK hP hD rfl hl.1 rfl (Nat.le_of_ble_eq_true rfl) dX0_worthAt_12 ⟨Nat.zero_le _, Nat.zero_le _⟩) hD hS hA (fun H locs hP hD hS => ?_)
    refine lv_if_ne (tgt := 24) hx hb dX0_worthAt_15 (by decide) (fun c_3 => ?_) (fun c_3 => ?_)
    · have hm := ifn c_3 hm
      refine lv_aload_n hx hb dX0_worthAt_24 rfl (lv_at hl 0 rfl) ?_
      refine va_get (D := D) (ci := 0) (v := wv ad σ k0) (C := RX0) (T := TX0) (N := 10) hx hb hts iwX0_worthAt_X0 hown hK.1 hP (13 + k0) (cw_13 hk0) rfl 9 (by decide) (hts _ lkX0_worthAt_40) (fun _ h9 => h9) rfl dX0_worthAt_25 ?_
      rw [wv_t (σ := σ) (k := k0) c_1]
      refine lv_iload_n hx hb dX0_worthAt_28 rfl (lv_at hl 1 rfl) ?_
      obtain ⟨h_4, hm⟩ := gd_some hm
      obtain ⟨q_4, hq_4, -⟩ := cw_18 (cy := cy) (ad := ad) (σ := σ) (τ := σ) hk0 c_1 (fun _ _ => rfl) (fun _ _ => rfl) rfl rfl rfl
      refine va_iald hx hb hK.1 hP q_4 0 hq_4 rfl (inb_vp h_4) dX0_worthAt_29 ?_
      refine lv_if_ne (tgt := 44) hx hb dX0_worthAt_30 (by decide) (fun c_5 => ?_) (fun c_5 => ?_)
      · have hm := ifn c_5 hm
        refine lv_aload_n hx hb dX0_worthAt_44 rfl (lv_at hl 0 rfl) ?_
        refine va_get (D := D) (ci := 0) (v := wv ad σ k0) (C := RX0) (T := TX0) (N := 10) hx hb hts iwX0_worthAt_X0 hown hK.1 hP (13 + k0) (cw_13 hk0) rfl 9 (by decide) (hts _ lkX0_worthAt_40) (fun _ h9 => h9) rfl dX0_worthAt_45 ?_
        rw [wv_t (σ := σ) (k := k0) c_1]
        refine lv_iload_n hx hb dX0_worthAt_48 rfl (lv_at hl 1 rfl) ?_
        obtain ⟨h_6, hm⟩ := gd_some hm
        obtain ⟨q_6, hq_6, -⟩ := cw_18 (cy := cy) (ad := ad) (σ := σ) (τ := σ) hk0 c_1 (fun _ _ => rfl) (fun _ _ => rfl) rfl rfl rfl
        refine va_iald hx hb hK.1 hP q_6 0 hq_6 rfl (inb_vp h_6) dX0_worthAt_49 ?_
        exact z_i hx hb hr hlocks hm hP hD hS dX0_worthAt_50
      · have hm := ifp c_5 hm
        refine lv_aload_n hx hb dX0_worthAt_33 rfl (lv_at hl 0 rfl) ?_
        refine va_get (D := D) (ci := 0) (v := wv ad σ k0) (C := RX0) (T := TX0) (N := 10) hx hb hts iwX0_worthAt_X0 hown hK.1 hP (13 + k0) (cw_13 hk0) rfl 9 (by decide) (hts _ lkX0_worthAt_40) (fun _ h9 => h9) rfl dX0_worthAt_34 ?_
        rw [wv_t (σ := σ) (k := k0) c_1]
        refine lv_iload_n hx hb dX0_worthAt_37 rfl (lv_at hl 1 rfl) ?_
        refine lv_aload_n hx hb dX0_worthAt_38 rfl (lv_at hl 0 rfl) ?_
        refine lv_iload_n hx hb dX0_worthAt_39 rfl (lv_at hl 1 rfl) ?_
        obtain ⟨q_7, hq_7, hm⟩ := ob hm
        refine zc_i (zr_V [.int a1] [.int a1, .ref (ad 18 k0)] ⟨hx, hb, hml, hown, hts⟩ (ctX0_discounted l D cy ad σ hk0 k0 a1 q_7 hq_7 _) (cwV 1 hts gX0_worthAt_X0_discounted rfl rfl rfl (by decide +kernel) ⟨Nat.le_of_ble_eq_true rfl, Nat.le_of_ble_eq_true rfl⟩) hK hP hD (13 + k0) (cw_13 hk0) rfl rfl rfl hl.1 rfl (Nat.le_of_ble_eq_true rfl) dX0_worthAt_40 ⟨Nat.zero_le _, Nat.zero_le _⟩) hD hS hA (fun H locs hP hD hS => ?_)
        obtain ⟨h_8, hm⟩ := gd_some hm
        obtain ⟨q_8, hq_8, hs_8⟩ := cw_18 (cy := cy) (ad := ad) (σ := σ) (τ := (sI σ 10 k0 (Int32.toNatClampNeg a1) q_7)) hk0 c_1 (fun _ h9 => gI_nt h9) (fun _ h9 => gI_ni h9) rfl rfl rfl
        rw [gI_at] at hs_8
        refine va_iast hx hb hK.1 hP hD hS q_8 0 hq_8 rfl (inb_vp h_8) dX0_worthAt_43 (fun H locs hP hD hS => ?_)
        have hP := eP hs_8 hP
        have hD := eD hs_8 hD
        obtain ⟨σ_9, e_9, hm⟩ := sv_some hm
        have hP : va_P D vwCl (cw cy ad σ_9) H := by rw [e_9]; exact hP
        have hD : va_D A (cw cy ad σ_9) := by rw [e_9]; exact hD
        refine lv_aload_n hx hb dX0_worthAt_44 rfl (lv_at hl 0 rfl) ?_
        refine va_get (D := D) (ci := 0) (v := wv ad σ_9 k0) (C := RX0) (T := TX0) (N := 10) hx hb hts iwX0_worthAt_X0 hown hK.1 hP (13 + k0) (cw_13 hk0) rfl 9 (by decide) (hts _ lkX0_worthAt_40) (fun _ h9 => h9) rfl dX0_worthAt_45 ?_
        rw [wv_t (σ := σ_9) (k := k0) (by rw [e_9]; exact c_1)]
        refine lv_iload_n hx hb dX0_worthAt_48 rfl (lv_at hl 1 rfl) ?_
        obtain ⟨h_10, hm⟩ := gd_some hm
        obtain ⟨q_10, hq_10, -⟩ := cw_18 (cy := cy) (ad := ad) (σ := σ_9) (τ := σ_9) hk0 (by rw [e_9]; exact c_1) (fun _ _ => rfl) (fun _ _ => rfl) rfl rfl rfl
        refine va_iald hx hb hK.1 hP q_10 0 hq_10 rfl (inb_vp h_10) dX0_worthAt_49 ?_
        exact z_i hx hb hr hlocks hm hP hD hS dX0_worthAt_50
    · have hm := ifp c_3 hm
      refine lv_aload_n hx hb dX0_worthAt_18 rfl (lv_at hl 0 rfl) ?_
      refine lv_iload_n hx hb dX0_worthAt_19 rfl (lv_at hl 1 rfl) ?_
      obtain ⟨q_11, hq_11, hm⟩ := ob hm
      refine zc_i (zr_V [.int a1] [] ⟨hx, hb, hml, hown, hts⟩ (ctX0_discounted l D cy ad σ hk0 k0 a1 q_11 hq_11 _) (cwV 1 hts gX0_worthAt_X0_discounted rfl rfl rfl (by decide +kernel) ⟨Nat.le_of_ble_eq_true rfl, Nat.le_of_ble_eq_true rfl⟩) hK hP hD (13 + k0) (cw_13 hk0) rfl rfl rfl hl.1 rfl (Nat.le_of_ble_eq_true rfl) dX0_worthAt_20 ⟨Nat.zero_le _, Nat.zero_le _⟩) hD hS hA (fun H locs hP hD hS => ?_)
      exact z_i hx hb hr hlocks hm hP hD hS dX0_worthAt_23
  · rw [wv_f (σ := σ) (k := k0) c_1]
    have hm := ifn c_1 hm
    refine lv_ifnullN (tgt := 18) hx hb dX0_worthAt_4 (by decide) ?_
    refine lv_aload_n hx hb dX0_worthAt_18 rfl (lv_at hl 0 rfl) ?_
    refine lv_iload_n hx hb dX0_worthAt_19 rfl (lv_at hl 1 rfl) ?_
    obtain ⟨q_12, hq_12, hm⟩ := ob hm
    refine zc_i (zr_V [.int a1] [] ⟨hx, hb, hml, hown, hts⟩ (ctX0_discounted l D cy ad σ hk0 k0 a1 q_12 hq_12 _) (cwV 1 hts gX0_worthAt_X0_discounted rfl rfl rfl (by decide +kernel) ⟨Nat.le_of_ble_eq_true rfl, Nat.le_of_ble_eq_true rfl⟩) hK hP hD (13 + k0) (cw_13 hk0) rfl rfl rfl hl.1 rfl (Nat.le_of_ble_eq_true rfl) dX0_worthAt_20 ⟨Nat.zero_le _, Nat.zero_le _⟩) hD hS hA (fun H locs hP hD hS => ?_)
    exact z_i hx hb hr hlocks hm hP hD hS dX0_worthAt_23
abbrev rmX0_factorBy : Room := { frames := 2, cells := 0, slots := 0, locals := 46 }
theorem lkX0_factorBy_67 : Cond.fieldLink RX0 67 "DeliveryBasket$Bond" "factor" "I" ∈ wsX0_factorBy := by decide +kernel
theorem iwX0_factorBy_X0 : ∀ w ∈ wsX00, w ∈ wsX0_factorBy := fun _ h => List.mem_cons_of_mem _ (List.mem_append_right _ h)
def mX0_factorBy (σ : ST) (k0 : Nat) (a1 : Int32) : Option (ST) := (mX0_worthAt σ k0 a1).bind fun q_1 => sv (sI q_1.2 2 k0 7 (q_1.1 / (10000 : Int32))) fun σ_2 => some σ_2
set_option maxHeartbeats 4000000 in
set_option maxRecDepth 100000 in
theorem ctX0_factorBy (l : Launch) (D : va_G) (cy : Nat → ClassId) (ad : Nat → Nat → Nat) (σ : ST) {k0 : Nat} (hk0 : k0 < 8) (kk0 : Nat) (a1 : Int32) (q : ST) (hm : mX0_factorBy σ k0 a1 = some q) : zMv l yX0_factorBy wsX0_factorBy rmX0_factorBy D cy [.ref (ad 13 k0), .int a1] (cw cy ad σ) (cw cy ad q) := by
  intro sz
  refine Met.ofW (cc := cX0_factorBy) (maxL := 2) (ret := none) (by decide) rfl ?_
  intro p e s m args below meth c s₁ B hml hv
  obtain ⟨rfl, hsz, hP, hK, hD0⟩ := hv
  have hx := B.exec
  have hb := B.bytes
  have hr := B.returns
  have hts := atoms_spec (ws := wsX0_factorBy) B.pre
  have hown : s.vm.findClass RX0 = some m.cls := findClass_of_methodNamed B.named
  have hlocks := B.notSynchronized
  subst hsz
  have hD := hD0.self (sz := s.heap.size)
  generalize hAe : va_A (cw cy ad σ) s.heap.size = A at hD ⊢
  have hA : ∀ q : Nat, s.heap.size ≤ q → A q := fun q h => by rw [← hAe]; exact Or.inr h
  have hS : va_S A s.heap s.heap [] := va_S.rf
  have C : Cx p s m _ meth c cX0_factorBy 2 none RX0 wsX0_factorBy D cy A := ⟨hx, hb, hml, hown, hts, hr, hlocks, hK, hA⟩
  have hl := lv_entry ([.ref (ad 13 k0), .int a1]) (n := 2) (Nat.le_of_ble_eq_true rfl)
  rw [lg_entry_eq]
  generalize (lg_sl ([.ref (ad 13 k0), .int a1]) ++ List.replicate (2 - (lg_sl ([.ref (ad 13 k0), .int a1])).length) Slot.unset).toArray = ls at hl ⊢
  have hl : lv_has ls 2 [(0, .ref (ad 13 k0)), (1, .int a1)] := hl
  unfold mX0_factorBy at hm
  refine lv_aload_n hx hb dX0_factorBy_0 rfl (lv_at hl 0 rfl) ?_
  refine lv_aload_n hx hb dX0_factorBy_1 rfl (lv_at hl 0 rfl) ?_
  refine lv_iload_n hx hb dX0_factorBy_2 rfl (lv_at hl 1 rfl) ?_
  obtain ⟨q_1, hq_1, hm⟩ := ob hm
  refine zc_i (zr_V [.int a1] [.ref (ad 13 k0)] ⟨hx, hb, hml, hown, hts⟩ (ctX0_worthAt l D cy ad σ hk0 k0 a1 q_1 hq_1 _) (cwV 1 hts gX0_factorBy_X0_worthAt rfl rfl rfl (by decide +kernel) ⟨Nat.le_of_ble_eq_true rfl, Nat.le_of_ble_eq_true rfl⟩) hK hP hD (13 + k0) (cw_13 hk0) rfl rfl rfl hl.1 rfl (Nat.le_of_ble_eq_true rfl) dX0_factorBy_3 ⟨Nat.zero_le _, Nat.zero_le _⟩) hD hS hA (fun H locs hP hD hS => ?_)
  refine lv_sipush (v := 10000) hx hb dX0_factorBy_6 (by decide) ?_
  refine lv_idiv hx hb dX0_factorBy_9 (by decide) ?_
  refine va_put (D := D) (ci := 0) (v := .int (q_1.1 / (10000 : Int32))) (ty := .int) (C := RX0) (T := TX0) (N := 10) hx hb hts iwX0_factorBy_X0 tyX0 tyX0_ok nmX0 hown hK.1 hP hD hS (13 + k0) (cw_13 hk0) rfl 7 (by decide) (hts _ lkX0_factorBy_67) (fun _ h9 => h9) rfl (by decide +kernel) rfl rfl (Nat.le_of_ble_eq_true rfl) dX0_factorBy_10 (fun H locs hP hD hS => ?_)
  have hP := eP (cw_s13 (σ := q_1.2) (j := 7) (v := (q_1.1 / (10000 : Int32))) (by simp [gI_sI]) hk0) hP
  have hD := eD (cw_s13 (σ := q_1.2) (j := 7) (v := (q_1.1 / (10000 : Int32))) (by simp [gI_sI]) hk0) hD
  obtain ⟨σ_2, e_2, hm⟩ := sv_some hm
  have hP : va_P D vwCl (cw cy ad σ_2) H := by rw [e_2]; exact hP
  have hD : va_D A (cw cy ad σ_2) := by rw [e_2]; exact hD
  exact z_v hx hb hr hlocks hm hP hD hS dX0_factorBy_13

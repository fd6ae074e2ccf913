theorem lkX0_init_ol : Cond.methodLink RX0 3 objectInit ∈ wsX0_init := by decide +kernel
theorem lkX0_init_oi : Cond.instanceMethod objectInit ∈ wsX0_init := by decide +kernel
theorem lkX0_init_oc : Cond.code objectInit ⟨#[0xb1]⟩ 1 none ∈ wsX0_init := by decide +kernel
theorem lkX0_init_acint : Cond.arrayClass .int ∈ wsX0_init := by decide +kernel
theorem lkX0_init_9 : Cond.fieldLink RX0 9 "DeliveryBasket$Bond" "flows" "[I" ∈ wsX0_init := by decide +kernel
theorem iwX0_init : ∀ w ∈ wsX00, w ∈ wsX0_init := fun _ h => List.mem_cons_of_mem _ (List.mem_append_right _ h)
abbrev rmX0_init : Room := { frames := 1, cells := 1, slots := 41, locals := 20 }
abbrev w0X0_init (h0 : Nat) : va_W := [((h0, .inr (0, [.int 0, .int 0, .int 0, .int 0, .int 0, .int 0, .int 0, .int 0, .null, .null])) : Nat × va_E)]
set_option maxHeartbeats 4000000 in
set_option maxRecDepth 100000 in
abbrev w1X0_init (cy : Nat → ClassId) (h0 q : Nat) : va_W := [(h0, .inr (0, [.int 0, .int 0, .int 0, .int 0, .int 0, .int 0, .int 0, .int 0, .ref q, .null])), (q, .inl (cy 0, 41, .inl (fun _ => 0)))]
theorem ctX0_init (l : Launch) (D : va_G) (cy : Nat → ClassId) (h0 : Nat) (sz : Nat) : Met l yX0_init wsX0_init rmX0_init (va_Pc [.ref h0] (fun U => zPre D cy (w0X0_init h0) sz U)) (va_Qv (fun _ : Nat => True) (fun q t => va_P D vwCl (w1X0_init cy h0 q) t.heap ∧ va_D (va_A (w0X0_init h0) sz) (w1X0_init cy h0 q)) (va_A (w0X0_init h0) sz)) 1 41 (va_A (w0X0_init h0) sz) := by
  refine Met.ofW (cc := cX0_init) (maxL := 1) (ret := none) (by decide) rfl ?_
  intro p e s m args below meth c s₁ B hml hv
  obtain ⟨rfl, hsz, hP, hK, hD0⟩ := hv
  have hx := B.exec
  have hb := B.bytes
  have hr := B.returns
  have hts := atoms_spec (ws := wsX0_init) B.pre
  have hown : s.vm.findClass RX0 = some m.cls := findClass_of_methodNamed B.named
  have hlocks := B.notSynchronized
  have hin : meth.name = "<init>" := (name_of_methodNamed B.named B.method).1
  subst hsz
  have hD := hD0.self (sz := s.heap.size)
  generalize hAe : va_A (w0X0_init h0) s.heap.size = A at hD ⊢
  have hA : ∀ q : Nat, s.heap.size ≤ q → A q := fun q h => by rw [← hAe]; exact Or.inr h
  have hS : va_S A s.heap s.heap [] := va_S.rf
  have hl := lv_entry ([.ref h0]) (n := 1) (Nat.le_of_ble_eq_true rfl)
  rw [lg_entry_eq]
  generalize (lg_sl ([.ref h0]) ++ List.replicate (1 - (lg_sl ([.ref h0])).length) Slot.unset).toArray = ls at hl ⊢
  have hl : lv_has ls 1 [(0, .ref h0)] := hl
  refine lv_aload_n hx hb dX0_init_0 rfl (lv_at hl 0 rfl) ?_
  refine W.objInit hx hb hown (hts _ lkX0_init_ol) (hts _ lkX0_init_oi) (hts _ lkX0_init_oc) rfl (by rw [hml]; exact hl.1) rfl dX0_init_1 (Nat.le_of_ble_eq_true rfl) (Nat.le_of_ble_eq_true rfl) ?_
  refine W.eq (g2 := F0 m 4 ls []) rfl ?_
  refine lv_aload_n hx hb dX0_init_4 rfl (lv_at hl 0 rfl) ?_
  refine lv_bipush (v := 41) hx hb dX0_init_5 (by decide) ?_
  refine va_newa (atype := .int) (ty := .int) (N' := 41) (a0 := (41, .inl (fun _ => 0))) hx hb (hts _ lkX0_init_acint) rfl hK.1 hP hD hS hA (fun cA => rfl) (by decide) (by decide) (Nat.le_of_ble_eq_true rfl) (Nat.le_of_ble_eq_true rfl) (Nat.le_of_ble_eq_true rfl) dX0_init_7 (fun q7 cA H hK2 hP hD hS => ?_)
  have ecA : cA = cy 0 := by
    have h1 : va_RA s cA .int := (hK2.2 5 (cA, .int) rfl).2
    have h2 : va_RA s (cy 0) .int := (hK.1.2 0 (cy 0, .int) rfl).2
    exact Option.some.inj (h1.symm.trans h2)
  subst ecA
  have hP : va_P D vwCl (((h0, .inr (0, [.int 0, .int 0, .int 0, .int 0, .int 0, .int 0, .int 0, .int 0, .null, .null])) : Nat × va_E) :: (([] : va_W) ++ [((q7, .inl (cy 0, 41, .inl (fun _ => 0))) : Nat × va_E)])) H := hP
  have hD : va_D A (((h0, .inr (0, [.int 0, .int 0, .int 0, .int 0, .int 0, .int 0, .int 0, .int 0, .null, .null])) : Nat × va_E) :: (([] : va_W) ++ [((q7, .inl (cy 0, 41, .inl (fun _ => 0))) : Nat × va_E)])) := hD
  refine W.widen (k := 1) (n := 41) (Nat.le_of_ble_eq_true rfl) (Nat.le_of_ble_eq_true rfl) ?_
  refine va_putF (D := D) (ci := 0) (v := .ref q7) (ty := .array .int) (C := RX0) (T := TX0) (N := 10) hx hb hts iwX0_init tyX0 tyX0_ok nmX0 hown hK.1 hP hD hS 0 rfl rfl 8 (by decide) (hts _ lkX0_init_9) (fun _ h9 => h9) rfl hin rfl (by decide +kernel) rfl rfl (Nat.le_of_ble_eq_true rfl) dX0_init_9 (fun H locs hP hD hS => ?_)
  have hP : va_P D vwCl (((h0, .inr (0, [.int 0, .int 0, .int 0, .int 0, .int 0, .int 0, .int 0, .int 0, .ref q7, .null])) : Nat × va_E) :: (([] : va_W) ++ [((q7, .inl (cy 0, 41, .inl (fun _ => 0))) : Nat × va_E)])) H := hP
  have hD : va_D A (((h0, .inr (0, [.int 0, .int 0, .int 0, .int 0, .int 0, .int 0, .int 0, .int 0, .ref q7, .null])) : Nat × va_E) :: (([] : va_W) ++ [((q7, .inl (cy 0, 41, .inl (fun _ => 0))) : Nat × va_E)])) := hD
  have hP : va_P D vwCl (w1X0_init cy h0 q7) H := hP
  have hD : va_D A (w1X0_init cy h0 q7) := hD
  have hpost : True := trivial
  exact W.vret hx hb hr (fun t ht hW => ⟨⟨_, rfl, hpost, by rw [ht]; exact hP, hD⟩, hS.F ht⟩) hS.2.2 dX0_init_12
theorem lkX3_init_ol : Cond.methodLink RX3 1 objectInit ∈ wsX3_init := by decide +kernel
theorem lkX3_init_oi : Cond.instanceMethod objectInit ∈ wsX3_init := by decide +kernel
theorem lkX3_init_oc : Cond.code objectInit ⟨#[0xb1]⟩ 1 none ∈ wsX3_init := by decide +kernel
theorem lkX3_init_acint : Cond.arrayClass .int ∈ wsX3_init := by decide +kernel
theorem lkX3_init_7 : Cond.fieldLink RX3 7 "DeliveryBasketModel" "bond" "[I" ∈ wsX3_init := by decide +kernel
theorem lkX3_init_13 : Cond.fieldLink RX3 13 "DeliveryBasketModel" "notional" "I" ∈ wsX3_init := by decide +kernel
theorem lkX3_init_17 : Cond.fieldLink RX3 17 "DeliveryBasketModel" "least" "I" ∈ wsX3_init := by decide +kernel
theorem lkX3_init_20 : Cond.fieldLink RX3 20 "DeliveryBasketModel" "most" "I" ∈ wsX3_init := by decide +kernel
theorem lkX3_init_23 : Cond.fieldLink RX3 23 "DeliveryBasketModel" "start" "I" ∈ wsX3_init := by decide +kernel
theorem lkX3_init_26 : Cond.fieldLink RX3 26 "DeliveryBasketModel" "jump" "I" ∈ wsX3_init := by decide +kernel
theorem lkX3_init_k29 : Cond.constant RX3 29 (100000000) ∈ wsX3_init := by decide +kernel
theorem lkX3_init_30 : Cond.fieldLink RX3 30 "DeliveryBasketModel" "agreed" "I" ∈ wsX3_init := by decide +kernel
theorem lkX3_init_33 : Cond.fieldLink RX3 33 "DeliveryBasketModel" "alone" "I" ∈ wsX3_init := by decide +kernel
theorem lkX3_init_36 : Cond.fieldLink RX3 36 "DeliveryBasketModel" "but" "I" ∈ wsX3_init := by decide +kernel
theorem lkX3_init_39 : Cond.fieldLink RX3 39 "DeliveryBasketModel" "given" "[I" ∈ wsX3_init := by decide +kernel
theorem lkX3_init_aclong : Cond.arrayClass .long ∈ wsX3_init := by decide +kernel
theorem lkX3_init_42 : Cond.fieldLink RX3 42 "DeliveryBasketModel" "costs" "[J" ∈ wsX3_init := by decide +kernel
theorem lkX3_init_46 : Cond.fieldLink RX3 46 "DeliveryBasketModel" "value" "[J" ∈ wsX3_init := by decide +kernel
theorem lkX3_init_49 : Cond.fieldLink RX3 49 "DeliveryBasketModel" "nows" "[J" ∈ wsX3_init := by decide +kernel
theorem lkX3_init_52 : Cond.fieldLink RX3 52 "DeliveryBasketModel" "waits" "[J" ∈ wsX3_init := by decide +kernel
theorem lkX3_init_55 : Cond.fieldLink RX3 55 "DeliveryBasketModel" "bonds" "[I" ∈ wsX3_init := by decide +kernel
theorem lkX3_init_58 : Cond.fieldLink RX3 58 "DeliveryBasketModel" "ways" "[I" ∈ wsX3_init := by decide +kernel
theorem iwX3_init : ∀ w ∈ wsX30, w ∈ wsX3_init := fun _ h => List.mem_cons_of_mem _ (List.mem_append_right _ h)
abbrev rmX3_init : Room := { frames := 1, cells := 8, slots := 2277, locals := 20 }
abbrev w0X3_init (h0 : Nat) : va_W := [((h0, .inr (3, [.null, .int 0, .int 0, .int 0, .int 0, .int 0, .int 0, .int 0, .int 0, .int 0, .int 0, .int 0, .int 0, .null, .null, .null, .null, .null, .null, .null])) : Nat × va_E)]
set_option maxHeartbeats 4000000 in
set_option maxRecDepth 100000 in
def amL (L : List Nat) : Nat → Nat → Nat := fun t _ => L.getD t 0
def m0st : ST := ((fun t _ j => if t = 0 then [0, 0, 600, 1, 40, 0, 600, 10, 0, 100000000, 0, -1, -1].getD j 0 else 0), (fun _ _ _ => 0), (fun i => i), (fun _ => false))
theorem ctX3_init (l : Launch) (D : va_G) (cy : Nat → ClassId) (h0 : Nat) (sz : Nat) : Met l yX3_init wsX3_init rmX3_init (va_Pc [.ref h0] (fun U => zPre D cy (w0X3_init h0) sz U)) (va_Qv (fun am : Nat → Nat → Nat => am 0 0 = h0) (fun am t => va_P D vwCl (mw cy am m0st) t.heap ∧ va_D (va_A (w0X3_init h0) sz) (mw cy am m0st)) (va_A (w0X3_init h0) sz)) 8 2277 (va_A (w0X3_init h0) sz) := by
  refine Met.ofW (cc := cX3_init) (maxL := 1) (ret := none) (by decide) rfl ?_
  intro p e s m args below meth c s₁ B hml hv
  obtain ⟨rfl, hsz, hP, hK, hD0⟩ := hv
  have hx := B.exec
  have hb := B.bytes
  have hr := B.returns
  have hts := atoms_spec (ws := wsX3_init) B.pre
  have hown : s.vm.findClass RX3 = some m.cls := findClass_of_methodNamed B.named
  have hlocks := B.notSynchronized
  have hin : meth.name = "<init>" := (name_of_methodNamed B.named B.method).1
  subst hsz
  have hD := hD0.self (sz := s.heap.size)
  generalize hAe : va_A (w0X3_init h0) s.heap.size = A at hD ⊢
  have hA : ∀ q : Nat, s.heap.size ≤ q → A q := fun q h => by rw [← hAe]; exact Or.inr h
  have hS : va_S A s.heap s.heap [] := va_S.rf
  have hl := lv_entry ([.ref h0]) (n := 1) (Nat.le_of_ble_eq_true rfl)
  rw [lg_entry_eq]
  generalize (lg_sl ([.ref h0]) ++ List.replicate (1 - (lg_sl ([.ref h0])).length) Slot.unset).toArray = ls at hl ⊢
  have hl : lv_has ls 1 [(0, .ref h0)] := hl
  refine lv_aload_n hx hb dX3_init_0 rfl (lv_at hl 0 rfl) ?_
  refine W.objInit hx hb hown (hts _ lkX3_init_ol) (hts _ lkX3_init_oi) (hts _ lkX3_init_oc) rfl (by rw [hml]; exact hl.1) rfl dX3_init_1 (Nat.le_of_ble_eq_true rfl) (Nat.le_of_ble_eq_true rfl) ?_
  refine W.eq (g2 := F0 m 4 ls []) rfl ?_
  refine lv_aload_n hx hb dX3_init_4 rfl (lv_at hl 0 rfl) ?_
  refine lv_bipush (v := 56) hx hb dX3_init_5 (by decide) ?_
  refine va_newa (atype := .int) (ty := .int) (N' := 56) (a0 := (56, .inl (fun _ => 0))) hx hb (hts _ lkX3_init_acint) rfl hK.1 hP hD hS hA (fun cA => rfl) (by decide) (by decide) (Nat.le_of_ble_eq_true rfl) (Nat.le_of_ble_eq_true rfl) (Nat.le_of_ble_eq_true rfl) dX3_init_7 (fun q7 cA H hK2 hP hD hS => ?_)
  have ecA : cA = cy 0 := by
    have h1 : va_RA s cA .int := (hK2.2 5 (cA, .int) rfl).2
    have h2 : va_RA s (cy 0) .int := (hK.1.2 0 (cy 0, .int) rfl).2
    exact Option.some.inj (h1.symm.trans h2)
  subst ecA
  have hP : va_P D vwCl (((h0, .inr (3, [.null, .int 0, .int 0, .int 0, .int 0, .int 0, .int 0, .int 0, .int 0, .int 0, .int 0, .int 0, .int 0, .null, .null, .null, .null, .null, .null, .null])) : Nat × va_E) :: (([] : va_W) ++ [((q7, .inl (cy 0, 56, .inl (fun _ => 0))) : Nat × va_E)])) H := hP
  have hD : va_D A (((h0, .inr (3, [.null, .int 0, .int 0, .int 0, .int 0, .int 0, .int 0, .int 0, .int 0, .int 0, .int 0, .int 0, .int 0, .null, .null, .null, .null, .null, .null, .null])) : Nat × va_E) :: (([] : va_W) ++ [((q7, .inl (cy 0, 56, .inl (fun _ => 0))) : Nat × va_E)])) := hD
  refine W.widen (k := 1) (n := 56) (Nat.le_of_ble_eq_true rfl) (Nat.le_of_ble_eq_true rfl) ?_
  refine va_putF (D := D) (ci := 3) (v := .ref q7) (ty := .array .int) (C := RX3) (T := TX3) (N := 20) hx hb hts iwX3_init tyX3 tyX3_ok nmX3 hown hK.1 hP hD hS 0 rfl rfl 0 (by decide) (hts _ lkX3_init_7) (fun _ h9 => h9) rfl hin rfl (by decide +kernel) rfl rfl (Nat.le_of_ble_eq_true rfl) dX3_init_9 (fun H locs hP hD hS => ?_)
  have hP : va_P D vwCl (((h0, .inr (3, [.ref q7, .int 0, .int 0, .int 0, .int 0, .int 0, .int 0, .int 0, .int 0, .int 0, .int 0, .int 0, .int 0, .null, .null, .null, .null, .null, .null, .null])) : Nat × va_E) :: (([] : va_W) ++ [((q7, .inl (cy 0, 56, .inl (fun _ => 0))) : Nat × va_E)])) H := hP
  have hD : va_D A (((h0, .inr (3, [.ref q7, .int 0, .int 0, .int 0, .int 0, .int 0, .int 0, .int 0, .int 0, .int 0, .int 0, .int 0, .int 0, .null, .null, .null, .null, .null, .null, .null])) : Nat × va_E) :: (([] : va_W) ++ [((q7, .inl (cy 0, 56, .inl (fun _ => 0))) : Nat × va_E)])) := hD
  refine lv_aload_n hx hb dX3_init_12 rfl (lv_at hl 0 rfl) ?_
  refine lv_sipush (v := 600) hx hb dX3_init_13 (by decide) ?_
  refine va_put (D := D) (ci := 3) (v := .int 600) (ty := .int) (C := RX3) (T := TX3) (N := 20) hx hb hts iwX3_init tyX3 tyX3_ok nmX3 hown hK.1 hP hD hS 0 rfl rfl 2 (by decide) (hts _ lkX3_init_13) (fun _ h9 => h9) rfl (by decide +kernel) rfl rfl (Nat.le_of_ble_eq_true rfl) dX3_init_16 (fun H locs hP hD hS => ?_)
  have hP : va_P D vwCl (((h0, .inr (3, [.ref q7, .int 0, .int 600, .int 0, .int 0, .int 0, .int 0, .int 0, .int 0, .int 0, .int 0, .int 0, .int 0, .null, .null, .null, .null, .null, .null, .null])) : Nat × va_E) :: (([] : va_W) ++ [((q7, .inl (cy 0, 56, .inl (fun _ => 0))) : Nat × va_E)])) H := hP
  have hD : va_D A (((h0, .inr (3, [.ref q7, .int 0, .int 600, .int 0, .int 0, .int 0, .int 0, .int 0, .int 0, .int 0, .int 0, .int 0, .int 0, .null, .null, .null, .null, .null, .null, .null])) : Nat × va_E) :: (([] : va_W) ++ [((q7, .inl (cy 0, 56, .inl (fun _ => 0))) : Nat × va_E)])) := hD
  refine lv_aload_n hx hb dX3_init_19 rfl (lv_at hl 0 rfl) ?_
  refine lv_iconst (v := 1) hx hb dX3_init_20 (by decide) ?_
  refine va_put (D := D) (ci := 3) (v := .int 1) (ty := .int) (C := RX3) (T := TX3) (N := 20) hx hb hts iwX3_init tyX3 tyX3_ok nmX3 hown hK.1 hP hD hS 0 rfl rfl 3 (by decide) (hts _ lkX3_init_17) (fun _ h9 => h9) rfl (by decide +kernel) rfl rfl (Nat.le_of_ble_eq_true rfl) dX3_init_21 (fun H locs hP hD hS => ?_)
  have hP : va_P D vwCl (((h0, .inr (3, [.ref q7, .int 0, .int 600, .int 1, .int 0, .int 0, .int 0, .int 0, .int 0, .int 0, .int 0, .int 0, .int 0, .null, .null, .null, .null, .null, .null, .null])) : Nat × va_E) :: (([] : va_W) ++ [((q7, .inl (cy 0, 56, .inl (fun _ => 0))) : Nat × va_E)])) H := hP
  have hD : va_D A (((h0, .inr (3, [.ref q7, .int 0, .int 600, .int 1, .int 0, .int 0, .int 0, .int 0, .int 0, .int 0, .int 0, .int 0, .int 0, .null, .null, .null, .null, .null, .null, .null])) : Nat × va_E) :: (([] : va_W) ++ [((q7, .inl (cy 0, 56, .inl (fun _ => 0))) : Nat × va_E)])) := hD
  refine lv_aload_n hx hb dX3_init_24 rfl (lv_at hl 0 rfl) ?_
  refine lv_bipush (v := 40) hx hb dX3_init_25 (by decide) ?_
  refine va_put (D := D) (ci := 3) (v := .int 40) (ty := .int) (C := RX3) (T := TX3) (N := 20) hx hb hts iwX3_init tyX3 tyX3_ok nmX3 hown hK.1 hP hD hS 0 rfl rfl 4 (by decide) (hts _ lkX3_init_20) (fun _ h9 => h9) rfl (by decide +kernel) rfl rfl (Nat.le_of_ble_eq_true rfl) dX3_init_27 (fun H locs hP hD hS => ?_)
  have hP : va_P D vwCl (((h0, .inr (3, [.ref q7, .int 0, .int 600, .int 1, .int 40, .int 0, .int 0, .int 0, .int 0, .int 0, .int 0, .int 0, .int 0, .null, .null, .null, .null, .null, .null, .null])) : Nat × va_E) :: (([] : va_W) ++ [((q7, .inl (cy 0, 56, .inl (fun _ => 0))) : Nat × va_E)])) H := hP
  have hD : va_D A (((h0, .inr (3, [.ref q7, .int 0, .int 600, .int 1, .int 40, .int 0, .int 0, .int 0, .int 0, .int 0, .int 0, .int 0, .int 0, .null, .null, .null, .null, .null, .null, .null])) : Nat × va_E) :: (([] : va_W) ++ [((q7, .inl (cy 0, 56, .inl (fun _ => 0))) : Nat × va_E)])) := hD
  refine lv_aload_n hx hb dX3_init_30 rfl (lv_at hl 0 rfl) ?_
  refine lv_sipush (v := 600) hx hb dX3_init_31 (by decide) ?_
  refine va_put (D := D) (ci := 3) (v := .int 600) (ty := .int) (C := RX3) (T := TX3) (N := 20) hx hb hts iwX3_init tyX3 tyX3_ok nmX3 hown hK.1 hP hD hS 0 rfl rfl 6 (by decide) (hts _ lkX3_init_23) (fun _ h9 => h9) rfl (by decide +kernel) rfl rfl (Nat.le_of_ble_eq_true rfl) dX3_init_34 (fun H locs hP hD hS => ?_)
  have hP : va_P D vwCl (((h0, .inr (3, [.ref q7, .int 0, .int 600, .int 1, .int 40, .int 0, .int 600, .int 0, .int 0, .int 0, .int 0, .int 0, .int 0, .null, .null, .null, .null, .null, .null, .null])) : Nat × va_E) :: (([] : va_W) ++ [((q7, .inl (cy 0, 56, .inl (fun _ => 0))) : Nat × va_E)])) H := hP
  have hD : va_D A (((h0, .inr (3, [.ref q7, .int 0, .int 600, .int 1, .int 40, .int 0, .int 600, .int 0, .int 0, .int 0, .int 0, .int 0, .int 0, .null, .null, .null, .null, .null, .null, .null])) : Nat × va_E) :: (([] : va_W) ++ [((q7, .inl (cy 0, 56, .inl (fun _ => 0))) : Nat × va_E)])) := hD
  refine lv_aload_n hx hb dX3_init_37 rfl (lv_at hl 0 rfl) ?_
  refine lv_bipush (v := 10) hx hb dX3_init_38 (by decide) ?_
  refine va_put (D := D) (ci := 3) (v := .int 10) (ty := .int) (C := RX3) (T := TX3) (N := 20) hx hb hts iwX3_init tyX3 tyX3_ok nmX3 hown hK.1 hP hD hS 0 rfl rfl 7 (by decide) (hts _ lkX3_init_26) (fun _ h9 => h9) rfl (by decide +kernel) rfl rfl (Nat.le_of_ble_eq_true rfl) dX3_init_40 (fun H locs hP hD hS => ?_)
  have hP : va_P D vwCl (((h0, .inr (3, [.ref q7, .int 0, .int 600, .int 1, .int 40, .int 0, .int 600, .int 10, .int 0, .int 0, .int 0, .int 0, .int 0, .null, .null, .null, .null, .null, .null, .null])) : Nat × va_E) :: (([] : va_W) ++ [((q7, .inl (cy 0, 56, .inl (fun _ => 0))) : Nat × va_E)])) H := hP
  have hD : va_D A (((h0, .inr (3, [.ref q7, .int 0, .int 600, .int 1, .int 40, .int 0, .int 600, .int 10, .int 0, .int 0, .int 0, .int 0, .int 0, .null, .null, .null, .null, .null, .null, .null])) : Nat × va_E) :: (([] : va_W) ++ [((q7, .inl (cy 0, 56, .inl (fun _ => 0))) : Nat × va_E)])) := hD
  refine lv_aload_n hx hb dX3_init_43 rfl (lv_at hl 0 rfl) ?_
  refine lv_ldc (v := 100000000) hx hb hown (hts _ lkX3_init_k29) dX3_init_44 ?_
  refine va_put (D := D) (ci := 3) (v := .int 100000000) (ty := .int) (C := RX3) (T := TX3) (N := 20) hx hb hts iwX3_init tyX3 tyX3_ok nmX3 hown hK.1 hP hD hS 0 rfl rfl 9 (by decide) (hts _ lkX3_init_30) (fun _ h9 => h9) rfl (by decide +kernel) rfl rfl (Nat.le_of_ble_eq_true rfl) dX3_init_46 (fun H locs hP hD hS => ?_)
  have hP : va_P D vwCl (((h0, .inr (3, [.ref q7, .int 0, .int 600, .int 1, .int 40, .int 0, .int 600, .int 10, .int 0, .int 100000000, .int 0, .int 0, .int 0, .null, .null, .null, .null, .null, .null, .null])) : Nat × va_E) :: (([] : va_W) ++ [((q7, .inl (cy 0, 56, .inl (fun _ => 0))) : Nat × va_E)])) H := hP
  have hD : va_D A (((h0, .inr (3, [.ref q7, .int 0, .int 600, .int 1, .int 40, .int 0, .int 600, .int 10, .int 0, .int 100000000, .int 0, .int 0, .int 0, .null, .null, .null, .null, .null, .null, .null])) : Nat × va_E) :: (([] : va_W) ++ [((q7, .inl (cy 0, 56, .inl (fun _ => 0))) : Nat × va_E)])) := hD
  refine lv_aload_n hx hb dX3_init_49 rfl (lv_at hl 0 rfl) ?_
  refine lv_iconst (v := -1) hx hb dX3_init_50 (by decide) ?_
  refine va_put (D := D) (ci := 3) (v := .int (-1)) (ty := .int) (C := RX3) (T := TX3) (N := 20) hx hb hts iwX3_init tyX3 tyX3_ok nmX3 hown hK.1 hP hD hS 0 rfl rfl 11 (by decide) (hts _ lkX3_init_33) (fun _ h9 => h9) rfl (by decide +kernel) rfl rfl (Nat.le_of_ble_eq_true rfl) dX3_init_51 (fun H locs hP hD hS => ?_)
  have hP : va_P D vwCl (((h0, .inr (3, [.ref q7, .int 0, .int 600, .int 1, .int 40, .int 0, .int 600, .int 10, .int 0, .int 100000000, .int 0, .int (-1), .int 0, .null, .null, .null, .null, .null, .null, .null])) : Nat × va_E) :: (([] : va_W) ++ [((q7, .inl (cy 0, 56, .inl (fun _ => 0))) : Nat × va_E)])) H := hP
  have hD : va_D A (((h0, .inr (3, [.ref q7, .int 0, .int 600, .int 1, .int 40, .int 0, .int 600, .int 10, .int 0, .int 100000000, .int 0, .int (-1), .int 0, .null, .null, .null, .null, .null, .null, .null])) : Nat × va_E) :: (([] : va_W) ++ [((q7, .inl (cy 0, 56, .inl (fun _ => 0))) : Nat × va_E)])) := hD
  refine lv_aload_n hx hb dX3_init_54 rfl (lv_at hl 0 rfl) ?_
  refine lv_iconst (v := -1) hx hb dX3_init_55 (by decide) ?_
  refine va_put (D := D) (ci := 3) (v := .int (-1)) (ty := .int) (C := RX3) (T := TX3) (N := 20) hx hb hts iwX3_init tyX3 tyX3_ok nmX3 hown hK.1 hP hD hS 0 rfl rfl 12 (by decide) (hts _ lkX3_init_36) (fun _ h9 => h9) rfl (by decide +kernel) rfl rfl (Nat.le_of_ble_eq_true rfl) dX3_init_56 (fun H locs hP hD hS => ?_)
  have hP : va_P D vwCl (((h0, .inr (3, [.ref q7, .int 0, .int 600, .int 1, .int 40, .int 0, .int 600, .int 10, .int 0, .int 100000000, .int 0, .int (-1), .int (-1), .null, .null, .null, .null, .null, .null, .null])) : Nat × va_E) :: (([] : va_W) ++ [((q7, .inl (cy 0, 56, .inl (fun _ => 0))) : Nat × va_E)])) H := hP
  have hD : va_D A (((h0, .inr (3, [.ref q7, .int 0, .int 600, .int 1, .int 40, .int 0, .int 600, .int 10, .int 0, .int 100000000, .int 0, .int (-1), .int (-1), .null, .null, .null, .null, .null, .null, .null])) : Nat × va_E) :: (([] : va_W) ++ [((q7, .inl (cy 0, 56, .inl (fun _ => 0))) : Nat × va_E)])) := hD
  refine lv_aload_n hx hb dX3_init_59 rfl (lv_at hl 0 rfl) ?_
  refine lv_bipush (v := 8) hx hb dX3_init_60 (by decide) ?_
  refine va_newa (atype := .int) (ty := .int) (N' := 8) (a0 := (8, .inl (fun _ => 0))) hx hb (hts _ lkX3_init_acint) rfl hK.1 hP hD hS hA (fun cA => rfl) (by decide) (by decide) (Nat.le_of_ble_eq_true rfl) (Nat.le_of_ble_eq_true rfl) (Nat.le_of_ble_eq_true rfl) dX3_init_62 (fun q62 cA H hK2 hP hD hS => ?_)
  have ecA : cA = cy 0 := by
    have h1 : va_RA s cA .int := (hK2.2 5 (cA, .int) rfl).2
    have h2 : va_RA s (cy 0) .int := (hK.1.2 0 (cy 0, .int) rfl).2
    exact Option.some.inj (h1.symm.trans h2)
  subst ecA
  have hP : va_P D vwCl (((h0, .inr (3, [.ref q7, .int 0, .int 600, .int 1, .int 40, .int 0, .int 600, .int 10, .int 0, .int 100000000, .int 0, .int (-1), .int (-1), .null, .null, .null, .null, .null, .null, .null])) : Nat × va_E) :: ((([] : va_W) ++ [((q7, .inl (cy 0, 56, .inl (fun _ => 0))) : Nat × va_E)]) ++ [((q62, .inl (cy 0, 8, .inl (fun _ => 0))) : Nat × va_E)])) H := hP
  have hD : va_D A (((h0, .inr (3, [.ref q7, .int 0, .int 600, .int 1, .int 40, .int 0, .int 600, .int 10, .int 0, .int 100000000, .int 0, .int (-1), .int (-1), .null, .null, .null, .null, .null, .null, .null])) : Nat × va_E) :: ((([] : va_W) ++ [((q7, .inl (cy 0, 56, .inl (fun _ => 0))) : Nat × va_E)]) ++ [((q62, .inl (cy 0, 8, .inl (fun _ => 0))) : Nat × va_E)])) := hD
  refine W.widen (k := 2) (n := 64) (Nat.le_of_ble_eq_true rfl) (Nat.le_of_ble_eq_true rfl) ?_
  refine va_putF (D := D) (ci := 3) (v := .ref q62) (ty := .array .int) (C := RX3) (T := TX3) (N := 20) hx hb hts iwX3_init tyX3 tyX3_ok nmX3 hown hK.1 hP hD hS 0 rfl rfl 13 (by decide) (hts _ lkX3_init_39) (fun _ h9 => h9) rfl hin rfl (by decide +kernel) rfl rfl (Nat.le_of_ble_eq_true rfl) dX3_init_64 (fun H locs hP hD hS => ?_)
  have hP : va_P D vwCl (((h0, .inr (3, [.ref q7, .int 0, .int 600, .int 1, .int 40, .int 0, .int 600, .int 10, .int 0, .int 100000000, .int 0, .int (-1), .int (-1), .ref q62, .null, .null, .null, .null, .null, .null])) : Nat × va_E) :: ((([] : va_W) ++ [((q7, .inl (cy 0, 56, .inl (fun _ => 0))) : Nat × va_E)]) ++ [((q62, .inl (cy 0, 8, .inl (fun _ => 0))) : Nat × va_E)])) H := hP
  have hD : va_D A (((h0, .inr (3, [.ref q7, .int 0, .int 600, .int 1, .int 40, .int 0, .int 600, .int 10, .int 0, .int 100000000, .int 0, .int (-1), .int (-1), .ref q62, .null, .null, .null, .null, .null, .null])) : Nat × va_E) :: ((([] : va_W) ++ [((q7, .inl (cy 0, 56, .inl (fun _ => 0))) : Nat × va_E)]) ++ [((q62, .inl (cy 0, 8, .inl (fun _ => 0))) : Nat × va_E)])) := hD
  refine lv_aload_n hx hb dX3_init_67 rfl (lv_at hl 0 rfl) ?_
  refine lv_bipush (v := 8) hx hb dX3_init_68 (by decide) ?_
  refine va_newa (atype := .long) (ty := .long) (N' := 8) (a0 := (8, xl (fun _ => 0))) hx hb (hts _ lkX3_init_aclong) rfl hK.1 hP hD hS hA (fun cA => rfl) (by decide) (by decide) (Nat.le_of_ble_eq_true rfl) (Nat.le_of_ble_eq_true rfl) (Nat.le_of_ble_eq_true rfl) dX3_init_70 (fun q70 cA H hK2 hP hD hS => ?_)
  have ecA : cA = cy 1 := by
    have h1 : va_RA s cA .long := (hK2.2 5 (cA, .long) rfl).2
    have h2 : va_RA s (cy 1) .long := (hK.1.2 1 (cy 1, .long) rfl).2
    exact Option.some.inj (h1.symm.trans h2)
  subst ecA
  have hP : va_P D vwCl (((h0, .inr (3, [.ref q7, .int 0, .int 600, .int 1, .int 40, .int 0, .int 600, .int 10, .int 0, .int 100000000, .int 0, .int (-1), .int (-1), .ref q62, .null, .null, .null, .null, .null, .null])) : Nat × va_E) :: (((([] : va_W) ++ [((q7, .inl (cy 0, 56, .inl (fun _ => 0))) : Nat × va_E)]) ++ [((q62, .inl (cy 0, 8, .inl (fun _ => 0))) : Nat × va_E)]) ++ [((q70, .inl (cy 1, 8, xl (fun _ => 0))) : Nat × va_E)])) H := hP
  have hD : va_D A (((h0, .inr (3, [.ref q7, .int 0, .int 600, .int 1, .int 40, .int 0, .int 600, .int 10, .int 0, .int 100000000, .int 0, .int (-1), .int (-1), .ref q62, .null, .null, .null, .null, .null, .null])) : Nat × va_E) :: (((([] : va_W) ++ [((q7, .inl (cy 0, 56, .inl (fun _ => 0))) : Nat × va_E)]) ++ [((q62, .inl (cy 0, 8, .inl (fun _ => 0))) : Nat × va_E)]) ++ [((q70, .inl (cy 1, 8, xl (fun _ => 0))) : Nat × va_E)])) := hD
  refine W.widen (k := 3) (n := 72) (Nat.le_of_ble_eq_true rfl) (Nat.le_of_ble_eq_true rfl) ?_
  refine va_putF (D := D) (ci := 3) (v := .ref q70) (ty := .array .long) (C := RX3) (T := TX3) (N := 20) hx hb hts iwX3_init tyX3 tyX3_ok nmX3 hown hK.1 hP hD hS 0 rfl rfl 14 (by decide) (hts _ lkX3_init_42) (fun _ h9 => h9) rfl hin rfl (by decide +kernel) rfl rfl (Nat.le_of_ble_eq_true rfl) dX3_init_72 (fun H locs hP hD hS => ?_)
  have hP : va_P D vwCl (((h0, .inr (3, [.ref q7, .int 0, .int 600, .int 1, .int 40, .int 0, .int 600, .int 10, .int 0, .int 100000000, .int 0, .int (-1), .int (-1), .ref q62, .ref q70, .null, .null, .null, .null, .null])) : Nat × va_E) :: (((([] : va_W) ++ [((q7, .inl (cy 0, 56, .inl (fun _ => 0))) : Nat × va_E)]) ++ [((q62, .inl (cy 0, 8, .inl (fun _ => 0))) : Nat × va_E)]) ++ [((q70, .inl (cy 1, 8, xl (fun _ => 0))) : Nat × va_E)])) H := hP
  have hD : va_D A (((h0, .inr (3, [.ref q7, .int 0, .int 600, .int 1, .int 40, .int 0, .int 600, .int 10, .int 0, .int 100000000, .int 0, .int (-1), .int (-1), .ref q62, .ref q70, .null, .null, .null, .null, .null])) : Nat × va_E) :: (((([] : va_W) ++ [((q7, .inl (cy 0, 56, .inl (fun _ => 0))) : Nat × va_E)]) ++ [((q62, .inl (cy 0, 8, .inl (fun _ => 0))) : Nat × va_E)]) ++ [((q70, .inl (cy 1, 8, xl (fun _ => 0))) : Nat × va_E)])) := hD
  refine lv_aload_n hx hb dX3_init_75 rfl (lv_at hl 0 rfl) ?_
  refine lv_sipush (v := 441) hx hb dX3_init_76 (by decide) ?_
  refine va_newa (atype := .long) (ty := .long) (N' := 441) (a0 := (441, xl (fun _ => 0))) hx hb (hts _ lkX3_init_aclong) rfl hK.1 hP hD hS hA (fun cA => rfl) (by decide) (by decide) (Nat.le_of_ble_eq_true rfl) (Nat.le_of_ble_eq_true rfl) (Nat.le_of_ble_eq_true rfl) dX3_init_79 (fun q79 cA H hK2 hP hD hS => ?_)
  have ecA : cA = cy 1 := by
    have h1 : va_RA s cA .long := (hK2.2 5 (cA, .long) rfl).2
    have h2 : va_RA s (cy 1) .long := (hK.1.2 1 (cy 1, .long) rfl).2
    exact Option.some.inj (h1.symm.trans h2)
  subst ecA
  have hP : va_P D vwCl (((h0, .inr (3, [.ref q7, .int 0, .int 600, .int 1, .int 40, .int 0, .int 600, .int 10, .int 0, .int 100000000, .int 0, .int (-1), .int (-1), .ref q62, .ref q70, .null, .null, .null, .null, .null])) : Nat × va_E) :: ((((([] : va_W) ++ [((q7, .inl (cy 0, 56, .inl (fun _ => 0))) : Nat × va_E)]) ++ [((q62, .inl (cy 0, 8, .inl (fun _ => 0))) : Nat × va_E)]) ++ [((q70, .inl (cy 1, 8, xl (fun _ => 0))) : Nat × va_E)]) ++ [((q79, .inl (cy 1, 441, xl (fun _ => 0))) : Nat × va_E)])) H := hP
  have hD : va_D A (((h0, .inr (3, [.ref q7, .int 0, .int 600, .int 1, .int 40, .int 0, .int 600, .int 10, .int 0, .int 100000000, .int 0, .int (-1), .int (-1), .ref q62, .ref q70, .null, .null, .null, .null, .null])) : Nat × va_E) :: ((((([] : va_W) ++ [((q7, .inl (cy 0, 56, .inl (fun _ => 0))) : Nat × va_E)]) ++ [((q62, .inl (cy 0, 8, .inl (fun _ => 0))) : Nat × va_E)]) ++ [((q70, .inl (cy 1, 8, xl (fun _ => 0))) : Nat × va_E)]) ++ [((q79, .inl (cy 1, 441, xl (fun _ => 0))) : Nat × va_E)])) := hD
  refine W.widen (k := 4) (n := 513) (Nat.le_of_ble_eq_true rfl) (Nat.le_of_ble_eq_true rfl) ?_
  refine va_putF (D := D) (ci := 3) (v := .ref q79) (ty := .array .long) (C := RX3) (T := TX3) (N := 20) hx hb hts iwX3_init tyX3 tyX3_ok nmX3 hown hK.1 hP hD hS 0 rfl rfl 15 (by decide) (hts _ lkX3_init_46) (fun _ h9 => h9) rfl hin rfl (by decide +kernel) rfl rfl (Nat.le_of_ble_eq_true rfl) dX3_init_81 (fun H locs hP hD hS => ?_)
  have hP : va_P D vwCl (((h0, .inr (3, [.ref q7, .int 0, .int 600, .int 1, .int 40, .int 0, .int 600, .int 10, .int 0, .int 100000000, .int 0, .int (-1), .int (-1), .ref q62, .ref q70, .ref q79, .null, .null, .null, .null])) : Nat × va_E) :: ((((([] : va_W) ++ [((q7, .inl (cy 0, 56, .inl (fun _ => 0))) : Nat × va_E)]) ++ [((q62, .inl (cy 0, 8, .inl (fun _ => 0))) : Nat × va_E)]) ++ [((q70, .inl (cy 1, 8, xl (fun _ => 0))) : Nat × va_E)]) ++ [((q79, .inl (cy 1, 441, xl (fun _ => 0))) : Nat × va_E)])) H := hP
  have hD : va_D A (((h0, .inr (3, [.ref q7, .int 0, .int 600, .int 1, .int 40, .int 0, .int 600, .int 10, .int 0, .int 100000000, .int 0, .int (-1), .int (-1), .ref q62, .ref q70, .ref q79, .null, .null, .null, .null])) : Nat × va_E) :: ((((([] : va_W) ++ [((q7, .inl (cy 0, 56, .inl (fun _ => 0))) : Nat × va_E)]) ++ [((q62, .inl (cy 0, 8, .inl (fun _ => 0))) : Nat × va_E)]) ++ [((q70, .inl (cy 1, 8, xl (fun _ => 0))) : Nat × va_E)]) ++ [((q79, .inl (cy 1, 441, xl (fun _ => 0))) : Nat × va_E)])) := hD
  refine lv_aload_n hx hb dX3_init_84 rfl (lv_at hl 0 rfl) ?_
  refine lv_sipush (v := 441) hx hb dX3_init_85 (by decide) ?_
  refine va_newa (atype := .long) (ty := .long) (N' := 441) (a0 := (441, xl (fun _ => 0))) hx hb (hts _ lkX3_init_aclong) rfl hK.1 hP hD hS hA (fun cA => rfl) (by decide) (by decide) (Nat.le_of_ble_eq_true rfl) (Nat.le_of_ble_eq_true rfl) (Nat.le_of_ble_eq_true rfl) dX3_init_88 (fun q88 cA H hK2 hP hD hS => ?_)
  have ecA : cA = cy 1 := by
    have h1 : va_RA s cA .long := (hK2.2 5 (cA, .long) rfl).2
    have h2 : va_RA s (cy 1) .long := (hK.1.2 1 (cy 1, .long) rfl).2
    exact Option.some.inj (h1.symm.trans h2)
  subst ecA
  have hP : va_P D vwCl (((h0, .inr (3, [.ref q7, .int 0, .int 600, .int 1, .int 40, .int 0, .int 600, .int 10, .int 0, .int 100000000, .int 0, .int (-1), .int (-1), .ref q62, .ref q70, .ref q79, .null, .null, .null, .null])) : Nat × va_E) :: (((((([] : va_W) ++ [((q7, .inl (cy 0, 56, .inl (fun _ => 0))) : Nat × va_E)]) ++ [((q62, .inl (cy 0, 8, .inl (fun _ => 0))) : Nat × va_E)]) ++ [((q70, .inl (cy 1, 8, xl (fun _ => 0))) : Nat × va_E)]) ++ [((q79, .inl (cy 1, 441, xl (fun _ => 0))) : Nat × va_E)]) ++ [((q88, .inl (cy 1, 441, xl (fun _ => 0))) : Nat × va_E)])) H := hP
  have hD : va_D A (((h0, .inr (3, [.ref q7, .int 0, .int 600, .int 1, .int 40, .int 0, .int 600, .int 10, .int 0, .int 100000000, .int 0, .int (-1), .int (-1), .ref q62, .ref q70, .ref q79, .null, .null, .null, .null])) : Nat × va_E) :: (((((([] : va_W) ++ [((q7, .inl (cy 0, 56, .inl (fun _ => 0))) : Nat × va_E)]) ++ [((q62, .inl (cy 0, 8, .inl (fun _ => 0))) : Nat × va_E)]) ++ [((q70, .inl (cy 1, 8, xl (fun _ => 0))) : Nat × va_E)]) ++ [((q79, .inl (cy 1, 441, xl (fun _ => 0))) : Nat × va_E)]) ++ [((q88, .inl (cy 1, 441, xl (fun _ => 0))) : Nat × va_E)])) := hD
  refine W.widen (k := 5) (n := 954) (Nat.le_of_ble_eq_true rfl) (Nat.le_of_ble_eq_true rfl) ?_
  refine va_putF (D := D) (ci := 3) (v := .ref q88) (ty := .array .long) (C := RX3) (T := TX3) (N := 20) hx hb hts iwX3_init tyX3 tyX3_ok nmX3 hown hK.1 hP hD hS 0 rfl rfl 16 (by decide) (hts _ lkX3_init_49) (fun _ h9 => h9) rfl hin rfl (by decide +kernel) rfl rfl (Nat.le_of_ble_eq_true rfl) dX3_init_90 (fun H locs hP hD hS => ?_)
  have hP : va_P D vwCl (((h0, .inr (3, [.ref q7, .int 0, .int 600, .int 1, .int 40, .int 0, .int 600, .int 10, .int 0, .int 100000000, .int 0, .int (-1), .int (-1), .ref q62, .ref q70, .ref q79, .ref q88, .null, .null, .null])) : Nat × va_E) :: (((((([] : va_W) ++ [((q7, .inl (cy 0, 56, .inl (fun _ => 0))) : Nat × va_E)]) ++ [((q62, .inl (cy 0, 8, .inl (fun _ => 0))) : Nat × va_E)]) ++ [((q70, .inl (cy 1, 8, xl (fun _ => 0))) : Nat × va_E)]) ++ [((q79, .inl (cy 1, 441, xl (fun _ => 0))) : Nat × va_E)]) ++ [((q88, .inl (cy 1, 441, xl (fun _ => 0))) : Nat × va_E)])) H := hP
  have hD : va_D A (((h0, .inr (3, [.ref q7, .int 0, .int 600, .int 1, .int 40, .int 0, .int 600, .int 10, .int 0, .int 100000000, .int 0, .int (-1), .int (-1), .ref q62, .ref q70, .ref q79, .ref q88, .null, .null, .null])) : Nat × va_E) :: (((((([] : va_W) ++ [((q7, .inl (cy 0, 56, .inl (fun _ => 0))) : Nat × va_E)]) ++ [((q62, .inl (cy 0, 8, .inl (fun _ => 0))) : Nat × va_E)]) ++ [((q70, .inl (cy 1, 8, xl (fun _ => 0))) : Nat × va_E)]) ++ [((q79, .inl (cy 1, 441, xl (fun _ => 0))) : Nat × va_E)]) ++ [((q88, .inl (cy 1, 441, xl (fun _ => 0))) : Nat × va_E)])) := hD
  refine lv_aload_n hx hb dX3_init_93 rfl (lv_at hl 0 rfl) ?_
  refine lv_sipush (v := 441) hx hb dX3_init_94 (by decide) ?_
  refine va_newa (atype := .long) (ty := .long) (N' := 441) (a0 := (441, xl (fun _ => 0))) hx hb (hts _ lkX3_init_aclong) rfl hK.1 hP hD hS hA (fun cA => rfl) (by decide) (by decide) (Nat.le_of_ble_eq_true rfl) (Nat.le_of_ble_eq_true rfl) (Nat.le_of_ble_eq_true rfl) dX3_init_97 (fun q97 cA H hK2 hP hD hS => ?_)
  have ecA : cA = cy 1 := by
    have h1 : va_RA s cA .long := (hK2.2 5 (cA, .long) rfl).2
    have h2 : va_RA s (cy 1) .long := (hK.1.2 1 (cy 1, .long) rfl).2
    exact Option.some.inj (h1.symm.trans h2)
  subst ecA
  have hP : va_P D vwCl (((h0, .inr (3, [.ref q7, .int 0, .int 600, .int 1, .int 40, .int 0, .int 600, .int 10, .int 0, .int 100000000, .int 0, .int (-1), .int (-1), .ref q62, .ref q70, .ref q79, .ref q88, .null, .null, .null])) : Nat × va_E) :: ((((((([] : va_W) ++ [((q7, .inl (cy 0, 56, .inl (fun _ => 0))) : Nat × va_E)]) ++ [((q62, .inl (cy 0, 8, .inl (fun _ => 0))) : Nat × va_E)]) ++ [((q70, .inl (cy 1, 8, xl (fun _ => 0))) : Nat × va_E)]) ++ [((q79, .inl (cy 1, 441, xl (fun _ => 0))) : Nat × va_E)]) ++ [((q88, .inl (cy 1, 441, xl (fun _ => 0))) : Nat × va_E)]) ++ [((q97, .inl (cy 1, 441, xl (fun _ => 0))) : Nat × va_E)])) H := hP
  have hD : va_D A (((h0, .inr (3, [.ref q7, .int 0, .int 600, .int 1, .int 40, .int 0, .int 600, .int 10, .int 0, .int 100000000, .int 0, .int (-1), .int (-1), .ref q62, .ref q70, .ref q79, .ref q88, .null, .null, .null])) : Nat × va_E) :: ((((((([] : va_W) ++ [((q7, .inl (cy 0, 56, .inl (fun _ => 0))) : Nat × va_E)]) ++ [((q62, .inl (cy 0, 8, .inl (fun _ => 0))) : Nat × va_E)]) ++ [((q70, .inl (cy 1, 8, xl (fun _ => 0))) : Nat × va_E)]) ++ [((q79, .inl (cy 1, 441, xl (fun _ => 0))) : Nat × va_E)]) ++ [((q88, .inl (cy 1, 441, xl (fun _ => 0))) : Nat × va_E)]) ++ [((q97, .inl (cy 1, 441, xl (fun _ => 0))) : Nat × va_E)])) := hD
  refine W.widen (k := 6) (n := 1395) (Nat.le_of_ble_eq_true rfl) (Nat.le_of_ble_eq_true rfl) ?_
  refine va_putF (D := D) (ci := 3) (v := .ref q97) (ty := .array .long) (C := RX3) (T := TX3) (N := 20) hx hb hts iwX3_init tyX3 tyX3_ok nmX3 hown hK.1 hP hD hS 0 rfl rfl 17 (by decide) (hts _ lkX3_init_52) (fun _ h9 => h9) rfl hin rfl (by decide +kernel) rfl rfl (Nat.le_of_ble_eq_true rfl) dX3_init_99 (fun H locs hP hD hS => ?_)
  have hP : va_P D vwCl (((h0, .inr (3, [.ref q7, .int 0, .int 600, .int 1, .int 40, .int 0, .int 600, .int 10, .int 0, .int 100000000, .int 0, .int (-1), .int (-1), .ref q62, .ref q70, .ref q79, .ref q88, .ref q97, .null, .null])) : Nat × va_E) :: ((((((([] : va_W) ++ [((q7, .inl (cy 0, 56, .inl (fun _ => 0))) : Nat × va_E)]) ++ [((q62, .inl (cy 0, 8, .inl (fun _ => 0))) : Nat × va_E)]) ++ [((q70, .inl (cy 1, 8, xl (fun _ => 0))) : Nat × va_E)]) ++ [((q79, .inl (cy 1, 441, xl (fun _ => 0))) : Nat × va_E)]) ++ [((q88, .inl (cy 1, 441, xl (fun _ => 0))) : Nat × va_E)]) ++ [((q97, .inl (cy 1, 441, xl (fun _ => 0))) : Nat × va_E)])) H := hP
  have hD : va_D A (((h0, .inr (3, [.ref q7, .int 0, .int 600, .int 1, .int 40, .int 0, .int 600, .int 10, .int 0, .int 100000000, .int 0, .int (-1), .int (-1), .ref q62, .ref q70, .ref q79, .ref q88, .ref q97, .null, .null])) : Nat × va_E) :: ((((((([] : va_W) ++ [((q7, .inl (cy 0, 56, .inl (fun _ => 0))) : Nat × va_E)]) ++ [((q62, .inl (cy 0, 8, .inl (fun _ => 0))) : Nat × va_E)]) ++ [((q70, .inl (cy 1, 8, xl (fun _ => 0))) : Nat × va_E)]) ++ [((q79, .inl (cy 1, 441, xl (fun _ => 0))) : Nat × va_E)]) ++ [((q88, .inl (cy 1, 441, xl (fun _ => 0))) : Nat × va_E)]) ++ [((q97, .inl (cy 1, 441, xl (fun _ => 0))) : Nat × va_E)])) := hD
  refine lv_aload_n hx hb dX3_init_102 rfl (lv_at hl 0 rfl) ?_
  refine lv_sipush (v := 441) hx hb dX3_init_103 (by decide) ?_
  refine va_newa (atype := .int) (ty := .int) (N' := 441) (a0 := (441, .inl (fun _ => 0))) hx hb (hts _ lkX3_init_acint) rfl hK.1 hP hD hS hA (fun cA => rfl) (by decide) (by decide) (Nat.le_of_ble_eq_true rfl) (Nat.le_of_ble_eq_true rfl) (Nat.le_of_ble_eq_true rfl) dX3_init_106 (fun q106 cA H hK2 hP hD hS => ?_)
  have ecA : cA = cy 0 := by
    have h1 : va_RA s cA .int := (hK2.2 5 (cA, .int) rfl).2
    have h2 : va_RA s (cy 0) .int := (hK.1.2 0 (cy 0, .int) rfl).2
    exact Option.some.inj (h1.symm.trans h2)
  subst ecA
  have hP : va_P D vwCl (((h0, .inr (3, [.ref q7, .int 0, .int 600, .int 1, .int 40, .int 0, .int 600, .int 10, .int 0, .int 100000000, .int 0, .int (-1), .int (-1), .ref q62, .ref q70, .ref q79, .ref q88, .ref q97, .null, .null])) : Nat × va_E) :: (((((((([] : va_W) ++ [((q7, .inl (cy 0, 56, .inl (fun _ => 0))) : Nat × va_E)]) ++ [((q62, .inl (cy 0, 8, .inl (fun _ => 0))) : Nat × va_E)]) ++ [((q70, .inl (cy 1, 8, xl (fun _ => 0))) : Nat × va_E)]) ++ [((q79, .inl (cy 1, 441, xl (fun _ => 0))) : Nat × va_E)]) ++ [((q88, .inl (cy 1, 441, xl (fun _ => 0))) : Nat × va_E)]) ++ [((q97, .inl (cy 1, 441, xl (fun _ => 0))) : Nat × va_E)]) ++ [((q106, .inl (cy 0, 441, .inl (fun _ => 0))) : Nat × va_E)])) H := hP
  have hD : va_D A (((h0, .inr (3, [.ref q7, .int 0, .int 600, .int 1, .int 40, .int 0, .int 600, .int 10, .int 0, .int 100000000, .int 0, .int (-1), .int (-1), .ref q62, .ref q70, .ref q79, .ref q88, .ref q97, .null, .null])) : Nat × va_E) :: (((((((([] : va_W) ++ [((q7, .inl (cy 0, 56, .inl (fun _ => 0))) : Nat × va_E)]) ++ [((q62, .inl (cy 0, 8, .inl (fun _ => 0))) : Nat × va_E)]) ++ [((q70, .inl (cy 1, 8, xl (fun _ => 0))) : Nat × va_E)]) ++ [((q79, .inl (cy 1, 441, xl (fun _ => 0))) : Nat × va_E)]) ++ [((q88, .inl (cy 1, 441, xl (fun _ => 0))) : Nat × va_E)]) ++ [((q97, .inl (cy 1, 441, xl (fun _ => 0))) : Nat × va_E)]) ++ [((q106, .inl (cy 0, 441, .inl (fun _ => 0))) : Nat × va_E)])) := hD
  refine W.widen (k := 7) (n := 1836) (Nat.le_of_ble_eq_true rfl) (Nat.le_of_ble_eq_true rfl) ?_
  refine va_putF (D := D) (ci := 3) (v := .ref q106) (ty := .array .int) (C := RX3) (T := TX3) (N := 20) hx hb hts iwX3_init tyX3 tyX3_ok nmX3 hown hK.1 hP hD hS 0 rfl rfl 18 (by decide) (hts _ lkX3_init_55) (fun _ h9 => h9) rfl hin rfl (by decide +kernel) rfl rfl (Nat.le_of_ble_eq_true rfl) dX3_init_108 (fun H locs hP hD hS => ?_)
  have hP : va_P D vwCl (((h0, .inr (3, [.ref q7, .int 0, .int 600, .int 1, .int 40, .int 0, .int 600, .int 10, .int 0, .int 100000000, .int 0, .int (-1), .int (-1), .ref q62, .ref q70, .ref q79, .ref q88, .ref q97, .ref q106, .null])) : Nat × va_E) :: (((((((([] : va_W) ++ [((q7, .inl (cy 0, 56, .inl (fun _ => 0))) : Nat × va_E)]) ++ [((q62, .inl (cy 0, 8, .inl (fun _ => 0))) : Nat × va_E)]) ++ [((q70, .inl (cy 1, 8, xl (fun _ => 0))) : Nat × va_E)]) ++ [((q79, .inl (cy 1, 441, xl (fun _ => 0))) : Nat × va_E)]) ++ [((q88, .inl (cy 1, 441, xl (fun _ => 0))) : Nat × va_E)]) ++ [((q97, .inl (cy 1, 441, xl (fun _ => 0))) : Nat × va_E)]) ++ [((q106, .inl (cy 0, 441, .inl (fun _ => 0))) : Nat × va_E)])) H := hP
  have hD : va_D A (((h0, .inr (3, [.ref q7, .int 0, .int 600, .int 1, .int 40, .int 0, .int 600, .int 10, .int 0, .int 100000000, .int 0, .int (-1), .int (-1), .ref q62, .ref q70, .ref q79, .ref q88, .ref q97, .ref q106, .null])) : Nat × va_E) :: (((((((([] : va_W) ++ [((q7, .inl (cy 0, 56, .inl (fun _ => 0))) : Nat × va_E)]) ++ [((q62, .inl (cy 0, 8, .inl (fun _ => 0))) : Nat × va_E)]) ++ [((q70, .inl (cy 1, 8, xl (fun _ => 0))) : Nat × va_E)]) ++ [((q79, .inl (cy 1, 441, xl (fun _ => 0))) : Nat × va_E)]) ++ [((q88, .inl (cy 1, 441, xl (fun _ => 0))) : Nat × va_E)]) ++ [((q97, .inl (cy 1, 441, xl (fun _ => 0))) : Nat × va_E)]) ++ [((q106, .inl (cy 0, 441, .inl (fun _ => 0))) : Nat × va_E)])) := hD
  refine lv_aload_n hx hb dX3_init_111 rfl (lv_at hl 0 rfl) ?_
  refine lv_sipush (v := 441) hx hb dX3_init_112 (by decide) ?_
  refine va_newa (atype := .int) (ty := .int) (N' := 441) (a0 := (441, .inl (fun _ => 0))) hx hb (hts _ lkX3_init_acint) rfl hK.1 hP hD hS hA (fun cA => rfl) (by decide) (by decide) (Nat.le_of_ble_eq_true rfl) (Nat.le_of_ble_eq_true rfl) (Nat.le_of_ble_eq_true rfl) dX3_init_115 (fun q115 cA H hK2 hP hD hS => ?_)
  have ecA : cA = cy 0 := by
    have h1 : va_RA s cA .int := (hK2.2 5 (cA, .int) rfl).2
    have h2 : va_RA s (cy 0) .int := (hK.1.2 0 (cy 0, .int) rfl).2
    exact Option.some.inj (h1.symm.trans h2)
  subst ecA
  have hP : va_P D vwCl (((h0, .inr (3, [.ref q7, .int 0, .int 600, .int 1, .int 40, .int 0, .int 600, .int 10, .int 0, .int 100000000, .int 0, .int (-1), .int (-1), .ref q62, .ref q70, .ref q79, .ref q88, .ref q97, .ref q106, .null])) : Nat × va_E) :: ((((((((([] : va_W) ++ [((q7, .inl (cy 0, 56, .inl (fun _ => 0))) : Nat × va_E)]) ++ [((q62, .inl (cy 0, 8, .inl (fun _ => 0))) : Nat × va_E)]) ++ [((q70, .inl (cy 1, 8, xl (fun _ => 0))) : Nat × va_E)]) ++ [((q79, .inl (cy 1, 441, xl (fun _ => 0))) : Nat × va_E)]) ++ [((q88, .inl (cy 1, 441, xl (fun _ => 0))) : Nat × va_E)]) ++ [((q97, .inl (cy 1, 441, xl (fun _ => 0))) : Nat × va_E)]) ++ [((q106, .inl (cy 0, 441, .inl (fun _ => 0))) : Nat × va_E)]) ++ [((q115, .inl (cy 0, 441, .inl (fun _ => 0))) : Nat × va_E)])) H := hP
  have hD : va_D A (((h0, .inr (3, [.ref q7, .int 0, .int 600, .int 1, .int 40, .int 0, .int 600, .int 10, .int 0, .int 100000000, .int 0, .int (-1), .int (-1), .ref q62, .ref q70, .ref q79, .ref q88, .ref q97, .ref q106, .null])) : Nat × va_E) :: ((((((((([] : va_W) ++ [((q7, .inl (cy 0, 56, .inl (fun _ => 0))) : Nat × va_E)]) ++ [((q62, .inl (cy 0, 8, .inl (fun _ => 0))) : Nat × va_E)]) ++ [((q70, .inl (cy 1, 8, xl (fun _ => 0))) : Nat × va_E)]) ++ [((q79, .inl (cy 1, 441, xl (fun _ => 0))) : Nat × va_E)]) ++ [((q88, .inl (cy 1, 441, xl (fun _ => 0))) : Nat × va_E)]) ++ [((q97, .inl (cy 1, 441, xl (fun _ => 0))) : Nat × va_E)]) ++ [((q106, .inl (cy 0, 441, .inl (fun _ => 0))) : Nat × va_E)]) ++ [((q115, .inl (cy 0, 441, .inl (fun _ => 0))) : Nat × va_E)])) := hD
  refine W.widen (k := 8) (n := 2277) (Nat.le_of_ble_eq_true rfl) (Nat.le_of_ble_eq_true rfl) ?_
  refine va_putF (D := D) (ci := 3) (v := .ref q115) (ty := .array .int) (C := RX3) (T := TX3) (N := 20) hx hb hts iwX3_init tyX3 tyX3_ok nmX3 hown hK.1 hP hD hS 0 rfl rfl 19 (by decide) (hts _ lkX3_init_58) (fun _ h9 => h9) rfl hin rfl (by decide +kernel) rfl rfl (Nat.le_of_ble_eq_true rfl) dX3_init_117 (fun H locs hP hD hS => ?_)
  have hP : va_P D vwCl (((h0, .inr (3, [.ref q7, .int 0, .int 600, .int 1, .int 40, .int 0, .int 600, .int 10, .int 0, .int 100000000, .int 0, .int (-1), .int (-1), .ref q62, .ref q70, .ref q79, .ref q88, .ref q97, .ref q106, .ref q115])) : Nat × va_E) :: ((((((((([] : va_W) ++ [((q7, .inl (cy 0, 56, .inl (fun _ => 0))) : Nat × va_E)]) ++ [((q62, .inl (cy 0, 8, .inl (fun _ => 0))) : Nat × va_E)]) ++ [((q70, .inl (cy 1, 8, xl (fun _ => 0))) : Nat × va_E)]) ++ [((q79, .inl (cy 1, 441, xl (fun _ => 0))) : Nat × va_E)]) ++ [((q88, .inl (cy 1, 441, xl (fun _ => 0))) : Nat × va_E)]) ++ [((q97, .inl (cy 1, 441, xl (fun _ => 0))) : Nat × va_E)]) ++ [((q106, .inl (cy 0, 441, .inl (fun _ => 0))) : Nat × va_E)]) ++ [((q115, .inl (cy 0, 441, .inl (fun _ => 0))) : Nat × va_E)])) H := hP
  have hD : va_D A (((h0, .inr (3, [.ref q7, .int 0, .int 600, .int 1, .int 40, .int 0, .int 600, .int 10, .int 0, .int 100000000, .int 0, .int (-1), .int (-1), .ref q62, .ref q70, .ref q79, .ref q88, .ref q97, .ref q106, .ref q115])) : Nat × va_E) :: ((((((((([] : va_W) ++ [((q7, .inl (cy 0, 56, .inl (fun _ => 0))) : Nat × va_E)]) ++ [((q62, .inl (cy 0, 8, .inl (fun _ => 0))) : Nat × va_E)]) ++ [((q70, .inl (cy 1, 8, xl (fun _ => 0))) : Nat × va_E)]) ++ [((q79, .inl (cy 1, 441, xl (fun _ => 0))) : Nat × va_E)]) ++ [((q88, .inl (cy 1, 441, xl (fun _ => 0))) : Nat × va_E)]) ++ [((q97, .inl (cy 1, 441, xl (fun _ => 0))) : Nat × va_E)]) ++ [((q106, .inl (cy 0, 441, .inl (fun _ => 0))) : Nat × va_E)]) ++ [((q115, .inl (cy 0, 441, .inl (fun _ => 0))) : Nat × va_E)])) := hD
  have hP : va_P D vwCl (mw cy (amL [h0, q7, q62, q70, q79, q88, q97, q106, q115]) m0st) H := hP
  have hD : va_D A (mw cy (amL [h0, q7, q62, q70, q79, q88, q97, q106, q115]) m0st) := hD
  have hpost : (amL [h0, q7, q62, q70, q79, q88, q97, q106, q115]) 0 0 = h0 := rfl
  exact W.vret hx hb hr (fun t ht hW => ⟨⟨_, rfl, hpost, by rw [ht]; exact hP, hD⟩, hS.F ht⟩) hS.2.2 dX3_init_120
theorem lkX1_init_ol : Cond.methodLink RX1 3 objectInit ∈ wsX1_init := by decide +kernel
theorem lkX1_init_oi : Cond.instanceMethod objectInit ∈ wsX1_init := by decide +kernel
theorem lkX1_init_oc : Cond.code objectInit ⟨#[0xb1]⟩ 1 none ∈ wsX1_init := by decide +kernel
theorem lkX1_init_9 : Cond.fieldLink RX1 9 "DeliveryBasket$Lattice" "start" "I" ∈ wsX1_init := by decide +kernel
theorem lkX1_init_15 : Cond.fieldLink RX1 15 "DeliveryBasket$Lattice" "jump" "I" ∈ wsX1_init := by decide +kernel
theorem lkX1_init_k18 : Cond.constant RX1 18 (100000000) ∈ wsX1_init := by decide +kernel
theorem lkX1_init_19 : Cond.fieldLink RX1 19 "DeliveryBasket$Lattice" "agreed" "I" ∈ wsX1_init := by decide +kernel
theorem lkX1_init_cl22 : Cond.classLink RX1 22 "[[J" ∈ wsX1_init := by decide +kernel
theorem lkX1_init_aclong : Cond.arrayClass .long ∈ wsX1_init := by decide +kernel
theorem lkX1_init_24 : Cond.fieldLink RX1 24 "DeliveryBasket$Lattice" "values" "[[J" ∈ wsX1_init := by decide +kernel
theorem lkX1_init_cl27 : Cond.classLink RX1 27 "[[I" ∈ wsX1_init := by decide +kernel
theorem lkX1_init_acint : Cond.arrayClass .int ∈ wsX1_init := by decide +kernel
theorem lkX1_init_29 : Cond.fieldLink RX1 29 "DeliveryBasket$Lattice" "acts" "[[I" ∈ wsX1_init := by decide +kernel
theorem lkX1_init_32 : Cond.fieldLink RX1 32 "DeliveryBasket$Lattice" "levelPrices" "[[I" ∈ wsX1_init := by decide +kernel
theorem lkX1_init_35 : Cond.fieldLink RX1 35 "DeliveryBasket$Lattice" "levelNow" "[J" ∈ wsX1_init := by decide +kernel
theorem lkX1_init_39 : Cond.fieldLink RX1 39 "DeliveryBasket$Lattice" "levelPick" "[I" ∈ wsX1_init := by decide +kernel
theorem lkX1_init_43 : Cond.fieldLink RX1 43 "DeliveryBasket$Lattice" "invoices" "[J" ∈ wsX1_init := by decide +kernel
theorem lkX1_init_46 : Cond.fieldLink RX1 46 "DeliveryBasket$Lattice" "ways" "[I" ∈ wsX1_init := by decide +kernel
theorem iwX1_init : ∀ w ∈ wsX10, w ∈ wsX1_init := fun _ h => List.mem_cons_of_mem _ (List.mem_append_right _ h)
abbrev rmX1_init : Room := { frames := 1, cells := 90, slots := 1405, locals := 20 }
abbrev w0X1_init (h0 : Nat) : va_W := [((h0, .inr (1, [.int 0, .int 0, .int 0, .int 0, .int 0, .null, .null, .null, .null, .null, .null, .null])) : Nat × va_E)]
set_option maxHeartbeats 4000000 in
set_option maxRecDepth 100000 in
def c0st : ST := ((fun t _ j => if t = 0 then [0, 0, 600, 1, 40].getD j 0 else if t = 1 then [0, 600, 10, 0, 100000000].getD j 0 else 0), (fun _ _ _ => 0), (fun i => i), (fun _ => false))
def adX1 (h0 q6 q7 q8 q9 q10 q11 q12 : Nat) (r15 r16 r17 : Nat → Nat) : Nat → Nat → Nat := fun t i => match t with
  | 2 => h0
  | 6 => q6
  | 7 => q7
  | 8 => q8
  | 9 => q9
  | 10 => q10
  | 11 => q11
  | 12 => q12
  | 15 => r15 i
  | 16 => r16 i
  | 17 => r17 i
  | _ => 0
def w1X1 (cy : Nat → ClassId) (ad : Nat → Nat → Nat) : va_W := [c2 ad c0st,
  (ad 6 0, .inl (cy 4, 21, xr (fun d => some (ad 15 d)))), (ad 7 0, .inl (cy 3, 21, xr (fun d => some (ad 16 d)))), (ad 8 0, .inl (cy 3, 41, xr (fun d => some (ad 17 d)))),
  (ad 9 0, .inl (cy 1, 41, xl (gJ c0st 2 0))), (ad 10 0, .inl (cy 0, 41, .inl (gI c0st 8 0))), (ad 11 0, .inl (cy 1, 8, xl (gJ c0st 3 0))), (ad 12 0, .inl (cy 0, 22, .inl (gI c0st 9 0)))]
  ++ ((List.range 21).map (eV cy ad c0st) ++ ((List.range 21).map (eA cy ad c0st) ++ (List.range 41).map (eL cy ad c0st)))
theorem permX1 {α : Type} (x v a o n k i y : α) (rV rA rL : List α) : (x :: ((((((([] ++ (v :: rV)) ++ (a :: rA)) ++ (o :: rL)) ++ [n]) ++ [k]) ++ [i]) ++ [y])).Perm ([x, v, a, o, n, k, i, y] ++ (rV ++ (rA ++ rL))) := by
  classical
  rw [List.perm_iff_count]
  intro z
  simp only [List.count_append, List.count_cons, List.count_nil, List.nil_append, List.cons_append]
  omega
theorem ctX1_init (l : Launch) (D : va_G) (cy : Nat → ClassId) (h0 : Nat) (sz : Nat) : Met l yX1_init wsX1_init rmX1_init (va_Pc [.ref h0] (fun U => zPre D cy (w0X1_init h0) sz U ∧ (Cond.arrayOver (.array .int)).before #[] U = true ∧ (Cond.arrayOver (.array .long)).before #[] U = true)) (va_Qv (fun ad : Nat → Nat → Nat => ad 2 0 = h0) (fun ad t => va_P D vwCl (w1X1 cy ad) t.heap ∧ va_D (va_A (w0X1_init h0) sz) (w1X1 cy ad)) (va_A (w0X1_init h0) sz)) 90 1405 (va_A (w0X1_init h0) sz) := by
  refine Met.ofW (cc := cX1_init) (maxL := 1) (ret := none) (by decide) rfl ?_
  intro p e s m args below meth c s₁ B hml hv
  obtain ⟨rfl, ⟨hsz, hP, hK, hD0⟩, hO⟩ := hv
  have hx := B.exec
  have hb := B.bytes
  have hr := B.returns
  have hts := atoms_spec (ws := wsX1_init) B.pre
  have hown : s.vm.findClass RX1 = some m.cls := findClass_of_methodNamed B.named
  have hlocks := B.notSynchronized
  have hin : meth.name = "<init>" := (name_of_methodNamed B.named B.method).1
  subst hsz
  have hD := hD0.self (sz := s.heap.size)
  generalize hAe : va_A (w0X1_init h0) s.heap.size = A at hD ⊢
  have hA : ∀ q : Nat, s.heap.size ≤ q → A q := fun q h => by rw [← hAe]; exact Or.inr h
  have hS : va_S A s.heap s.heap [] := va_S.rf
  have hl := lv_entry ([.ref h0]) (n := 1) (Nat.le_of_ble_eq_true rfl)
  rw [lg_entry_eq]
  generalize (lg_sl ([.ref h0]) ++ List.replicate (1 - (lg_sl ([.ref h0])).length) Slot.unset).toArray = ls at hl ⊢
  have hl : lv_has ls 1 [(0, .ref h0)] := hl
  refine lv_aload_n hx hb dX1_init_0 rfl (lv_at hl 0 rfl) ?_
  refine W.objInit hx hb hown (hts _ lkX1_init_ol) (hts _ lkX1_init_oi) (hts _ lkX1_init_oc) rfl (by rw [hml]; exact hl.1) rfl dX1_init_1 (Nat.le_of_ble_eq_true rfl) (Nat.le_of_ble_eq_true rfl) ?_
  refine W.eq (g2 := F0 m 4 ls []) rfl ?_
  refine lv_aload_n hx hb dX1_init_4 rfl (lv_at hl 0 rfl) ?_
  refine lv_sipush (v := 600) hx hb dX1_init_5 (by decide) ?_
  refine va_put (D := D) (ci := 1) (v := .int 600) (ty := .int) (C := RX1) (T := TX1) (N := 12) hx hb hts iwX1_init tyX1 tyX1_ok nmX1 hown hK.1 hP hD hS 0 rfl rfl 1 (by decide) (hts _ lkX1_init_9) (fun _ h9 => h9) rfl (by decide +kernel) rfl rfl (Nat.le_of_ble_eq_true rfl) dX1_init_8 (fun H locs hP hD hS => ?_)
  have hP : va_P D vwCl (((h0, .inr (1, [.int 0, .int 600, .int 0, .int 0, .int 0, .null, .null, .null, .null, .null, .null, .null])) : Nat × va_E) :: ([] : va_W)) H := hP
  have hD : va_D A (((h0, .inr (1, [.int 0, .int 600, .int 0, .int 0, .int 0, .null, .null, .null, .null, .null, .null, .null])) : Nat × va_E) :: ([] : va_W)) := hD
  refine lv_aload_n hx hb dX1_init_11 rfl (lv_at hl 0 rfl) ?_
  refine lv_bipush (v := 10) hx hb dX1_init_12 (by decide) ?_
  refine va_put (D := D) (ci := 1) (v := .int 10) (ty := .int) (C := RX1) (T := TX1) (N := 12) hx hb hts iwX1_init tyX1 tyX1_ok nmX1 hown hK.1 hP hD hS 0 rfl rfl 2 (by decide) (hts _ lkX1_init_15) (fun _ h9 => h9) rfl (by decide +kernel) rfl rfl (Nat.le_of_ble_eq_true rfl) dX1_init_14 (fun H locs hP hD hS => ?_)
  have hP : va_P D vwCl (((h0, .inr (1, [.int 0, .int 600, .int 10, .int 0, .int 0, .null, .null, .null, .null, .null, .null, .null])) : Nat × va_E) :: ([] : va_W)) H := hP
  have hD : va_D A (((h0, .inr (1, [.int 0, .int 600, .int 10, .int 0, .int 0, .null, .null, .null, .null, .null, .null, .null])) : Nat × va_E) :: ([] : va_W)) := hD
  refine lv_aload_n hx hb dX1_init_17 rfl (lv_at hl 0 rfl) ?_
  refine lv_ldc (v := 100000000) hx hb hown (hts _ lkX1_init_k18) dX1_init_18 ?_
  refine va_put (D := D) (ci := 1) (v := .int 100000000) (ty := .int) (C := RX1) (T := TX1) (N := 12) hx hb hts iwX1_init tyX1 tyX1_ok nmX1 hown hK.1 hP hD hS 0 rfl rfl 4 (by decide) (hts _ lkX1_init_19) (fun _ h9 => h9) rfl (by decide +kernel) rfl rfl (Nat.le_of_ble_eq_true rfl) dX1_init_20 (fun H locs hP hD hS => ?_)
  have hP : va_P D vwCl (((h0, .inr (1, [.int 0, .int 600, .int 10, .int 0, .int 100000000, .null, .null, .null, .null, .null, .null, .null])) : Nat × va_E) :: ([] : va_W)) H := hP
  have hD : va_D A (((h0, .inr (1, [.int 0, .int 600, .int 10, .int 0, .int 100000000, .null, .null, .null, .null, .null, .null, .null])) : Nat × va_E) :: ([] : va_W)) := hD
  refine lv_aload_n hx hb dX1_init_23 rfl (lv_at hl 0 rfl) ?_
  refine lv_bipush (v := 21) hx hb dX1_init_24 (by decide) ?_
  refine lv_bipush (v := 21) hx hb dX1_init_26 (by decide) ?_
  refine z_mna (ty := .long) (cy := cy 1) (N' := 21) (K' := 21) (z := (21, xl (fun _ => 0))) hx hb hown (hts _ lkX1_init_cl22) (hO.2) (hts _ lkX1_init_aclong) (hK.1.2 1 (cy 1, .long) rfl).2 hK.1 hP hD hS hA (by decide) (by decide) (by decide) (by decide) (Nat.le_of_ble_eq_true rfl) (Nat.le_of_ble_eq_true rfl) (Nat.le_of_ble_eq_true rfl) rfl (Nat.le_of_ble_eq_true rfl) (Nat.le_of_ble_eq_true rfl) (fun _ => rfl) dX1_init_28 (fun q28 r28 cA H hK2 hP hD hS => ?_)
  have ecA : cA = cy 4 := by
    have h1 : va_RA s cA (.array .long) := (hK2.2 5 (cA, .array .long) rfl).2
    have h2 : va_RA s (cy 4) (.array .long) := (hK.1.2 4 (cy 4, .array .long) rfl).2
    exact Option.some.inj (h1.symm.trans h2)
  subst ecA
  have hP : va_P D vwCl (((h0, .inr (1, [.int 0, .int 600, .int 10, .int 0, .int 100000000, .null, .null, .null, .null, .null, .null, .null])) : Nat × va_E) :: (([] : va_W) ++ (((q28, .inl (cy 4, 21, xr (fun i => some (r28 i)))) : Nat × va_E) :: (List.range 21).map (fun i => ((r28 i, .inl (cy 1, (21, xl (fun _ => 0)))) : Nat × va_E))))) H := hP
  have hD : va_D A (((h0, .inr (1, [.int 0, .int 600, .int 10, .int 0, .int 100000000, .null, .null, .null, .null, .null, .null, .null])) : Nat × va_E) :: (([] : va_W) ++ (((q28, .inl (cy 4, 21, xr (fun i => some (r28 i)))) : Nat × va_E) :: (List.range 21).map (fun i => ((r28 i, .inl (cy 1, (21, xl (fun _ => 0)))) : Nat × va_E))))) := hD
  refine W.widen (k := 22) (n := 462) (Nat.le_of_ble_eq_true rfl) (Nat.le_of_ble_eq_true rfl) ?_
  refine va_putF (D := D) (ci := 1) (v := .ref q28) (ty := .array (.array .long)) (C := RX1) (T := TX1) (N := 12) hx hb hts iwX1_init tyX1 tyX1_ok nmX1 hown hK.1 hP hD hS 0 rfl rfl 5 (by decide) (hts _ lkX1_init_24) (fun _ h9 => h9) rfl hin rfl (by decide +kernel) rfl rfl (Nat.le_of_ble_eq_true rfl) dX1_init_32 (fun H locs hP hD hS => ?_)
  have hP : va_P D vwCl (((h0, .inr (1, [.int 0, .int 600, .int 10, .int 0, .int 100000000, .ref q28, .null, .null, .null, .null, .null, .null])) : Nat × va_E) :: (([] : va_W) ++ (((q28, .inl (cy 4, 21, xr (fun i => some (r28 i)))) : Nat × va_E) :: (List.range 21).map (fun i => ((r28 i, .inl (cy 1, (21, xl (fun _ => 0)))) : Nat × va_E))))) H := hP
  have hD : va_D A (((h0, .inr (1, [.int 0, .int 600, .int 10, .int 0, .int 100000000, .ref q28, .null, .null, .null, .null, .null, .null])) : Nat × va_E) :: (([] : va_W) ++ (((q28, .inl (cy 4, 21, xr (fun i => some (r28 i)))) : Nat × va_E) :: (List.range 21).map (fun i => ((r28 i, .inl (cy 1, (21, xl (fun _ => 0)))) : Nat × va_E))))) := hD
  refine lv_aload_n hx hb dX1_init_35 rfl (lv_at hl 0 rfl) ?_
  refine lv_bipush (v := 21) hx hb dX1_init_36 (by decide) ?_
  refine lv_bipush (v := 21) hx hb dX1_init_38 (by decide) ?_
  refine z_mna (ty := .int) (cy := cy 0) (N' := 21) (K' := 21) (z := (21, .inl (fun _ => 0))) hx hb hown (hts _ lkX1_init_cl27) (hO.1) (hts _ lkX1_init_acint) (hK.1.2 0 (cy 0, .int) rfl).2 hK.1 hP hD hS hA (by decide) (by decide) (by decide) (by decide) (Nat.le_of_ble_eq_true rfl) (Nat.le_of_ble_eq_true rfl) (Nat.le_of_ble_eq_true rfl) rfl (Nat.le_of_ble_eq_true rfl) (Nat.le_of_ble_eq_true rfl) (fun _ => rfl) dX1_init_40 (fun q40 r40 cA H hK2 hP hD hS => ?_)
  have ecA : cA = cy 3 := by
    have h1 : va_RA s cA (.array .int) := (hK2.2 5 (cA, .array .int) rfl).2
    have h2 : va_RA s (cy 3) (.array .int) := (hK.1.2 3 (cy 3, .array .int) rfl).2
    exact Option.some.inj (h1.symm.trans h2)
  subst ecA
  have hP : va_P D vwCl (((h0, .inr (1, [.int 0, .int 600, .int 10, .int 0, .int 100000000, .ref q28, .null, .null, .null, .null, .null, .null])) : Nat × va_E) :: ((([] : va_W) ++ (((q28, .inl (cy 4, 21, xr (fun i => some (r28 i)))) : Nat × va_E) :: (List.range 21).map (fun i => ((r28 i, .inl (cy 1, (21, xl (fun _ => 0)))) : Nat × va_E)))) ++ (((q40, .inl (cy 3, 21, xr (fun i => some (r40 i)))) : Nat × va_E) :: (List.range 21).map (fun i => ((r40 i, .inl (cy 0, (21, .inl (fun _ => 0)))) : Nat × va_E))))) H := hP
  have hD : va_D A (((h0, .inr (1, [.int 0, .int 600, .int 10, .int 0, .int 100000000, .ref q28, .null, .null, .null, .null, .null, .null])) : Nat × va_E) :: ((([] : va_W) ++ (((q28, .inl (cy 4, 21, xr (fun i => some (r28 i)))) : Nat × va_E) :: (List.range 21).map (fun i => ((r28 i, .inl (cy 1, (21, xl (fun _ => 0)))) : Nat × va_E)))) ++ (((q40, .inl (cy 3, 21, xr (fun i => some (r40 i)))) : Nat × va_E) :: (List.range 21).map (fun i => ((r40 i, .inl (cy 0, (21, .inl (fun _ => 0)))) : Nat × va_E))))) := hD
  refine W.widen (k := 44) (n := 924) (Nat.le_of_ble_eq_true rfl) (Nat.le_of_ble_eq_true rfl) ?_
  refine va_putF (D := D) (ci := 1) (v := .ref q40) (ty := .array (.array .int)) (C := RX1) (T := TX1) (N := 12) hx hb hts iwX1_init tyX1 tyX1_ok nmX1 hown hK.1 hP hD hS 0 rfl rfl 6 (by decide) (hts _ lkX1_init_29) (fun _ h9 => h9) rfl hin rfl (by decide +kernel) rfl rfl (Nat.le_of_ble_eq_true rfl) dX1_init_44 (fun H locs hP hD hS => ?_)
  have hP : va_P D vwCl (((h0, .inr (1, [.int 0, .int 600, .int 10, .int 0, .int 100000000, .ref q28, .ref q40, .null, .null, .null, .null, .null])) : Nat × va_E) :: ((([] : va_W) ++ (((q28, .inl (cy 4, 21, xr (fun i => some (r28 i)))) : Nat × va_E) :: (List.range 21).map (fun i => ((r28 i, .inl (cy 1, (21, xl (fun _ => 0)))) : Nat × va_E)))) ++ (((q40, .inl (cy 3, 21, xr (fun i => some (r40 i)))) : Nat × va_E) :: (List.range 21).map (fun i => ((r40 i, .inl (cy 0, (21, .inl (fun _ => 0)))) : Nat × va_E))))) H := hP
  have hD : va_D A (((h0, .inr (1, [.int 0, .int 600, .int 10, .int 0, .int 100000000, .ref q28, .ref q40, .null, .null, .null, .null, .null])) : Nat × va_E) :: ((([] : va_W) ++ (((q28, .inl (cy 4, 21, xr (fun i => some (r28 i)))) : Nat × va_E) :: (List.range 21).map (fun i => ((r28 i, .inl (cy 1, (21, xl (fun _ => 0)))) : Nat × va_E)))) ++ (((q40, .inl (cy 3, 21, xr (fun i => some (r40 i)))) : Nat × va_E) :: (List.range 21).map (fun i => ((r40 i, .inl (cy 0, (21, .inl (fun _ => 0)))) : Nat × va_E))))) := hD
  refine lv_aload_n hx hb dX1_init_47 rfl (lv_at hl 0 rfl) ?_
  refine lv_bipush (v := 41) hx hb dX1_init_48 (by decide) ?_
  refine lv_bipush (v := 8) hx hb dX1_init_50 (by decide) ?_
  refine z_mna (ty := .int) (cy := cy 0) (N' := 41) (K' := 8) (z := (8, .inl (fun _ => 0))) hx hb hown (hts _ lkX1_init_cl27) (hO.1) (hts _ lkX1_init_acint) (hK.1.2 0 (cy 0, .int) rfl).2 hK.1 hP hD hS hA (by decide) (by decide) (by decide) (by decide) (Nat.le_of_ble_eq_true rfl) (Nat.le_of_ble_eq_true rfl) (Nat.le_of_ble_eq_true rfl) rfl (Nat.le_of_ble_eq_true rfl) (Nat.le_of_ble_eq_true rfl) (fun _ => rfl) dX1_init_52 (fun q52 r52 cA H hK2 hP hD hS => ?_)
  have ecA : cA = cy 3 := by
    have h1 : va_RA s cA (.array .int) := (hK2.2 5 (cA, .array .int) rfl).2
    have h2 : va_RA s (cy 3) (.array .int) := (hK.1.2 3 (cy 3, .array .int) rfl).2
    exact Option.some.inj (h1.symm.trans h2)
  subst ecA
  have hP : va_P D vwCl (((h0, .inr (1, [.int 0, .int 600, .int 10, .int 0, .int 100000000, .ref q28, .ref q40, .null, .null, .null, .null, .null])) : Nat × va_E) :: (((([] : va_W) ++ (((q28, .inl (cy 4, 21, xr (fun i => some (r28 i)))) : Nat × va_E) :: (List.range 21).map (fun i => ((r28 i, .inl (cy 1, (21, xl (fun _ => 0)))) : Nat × va_E)))) ++ (((q40, .inl (cy 3, 21, xr (fun i => some (r40 i)))) : Nat × va_E) :: (List.range 21).map (fun i => ((r40 i, .inl (cy 0, (21, .inl (fun _ => 0)))) : Nat × va_E)))) ++ (((q52, .inl (cy 3, 41, xr (fun i => some (r52 i)))) : Nat × va_E) :: (List.range 41).map (fun i => ((r52 i, .inl (cy 0, (8, .inl (fun _ => 0)))) : Nat × va_E))))) H := hP
  have hD : va_D A (((h0, .inr (1, [.int 0, .int 600, .int 10, .int 0, .int 100000000, .ref q28, .ref q40, .null, .null, .null, .null, .null])) : Nat × va_E) :: (((([] : va_W) ++ (((q28, .inl (cy 4, 21, xr (fun i => some (r28 i)))) : Nat × va_E) :: (List.range 21).map (fun i => ((r28 i, .inl (cy 1, (21, xl (fun _ => 0)))) : Nat × va_E)))) ++ (((q40, .inl (cy 3, 21, xr (fun i => some (r40 i)))) : Nat × va_E) :: (List.range 21).map (fun i => ((r40 i, .inl (cy 0, (21, .inl (fun _ => 0)))) : Nat × va_E)))) ++ (((q52, .inl (cy 3, 41, xr (fun i => some (r52 i)))) : Nat × va_E) :: (List.range 41).map (fun i => ((r52 i, .inl (cy 0, (8, .inl (fun _ => 0)))) : Nat × va_E))))) := hD
  refine W.widen (k := 86) (n := 1293) (Nat.le_of_ble_eq_true rfl) (Nat.le_of_ble_eq_true rfl) ?_
  refine va_putF (D := D) (ci := 1) (v := .ref q52) (ty := .array (.array .int)) (C := RX1) (T := TX1) (N := 12) hx hb hts iwX1_init tyX1 tyX1_ok nmX1 hown hK.1 hP hD hS 0 rfl rfl 7 (by decide) (hts _ lkX1_init_32) (fun _ h9 => h9) rfl hin rfl (by decide +kernel) rfl rfl (Nat.le_of_ble_eq_true rfl) dX1_init_56 (fun H locs hP hD hS => ?_)
  have hP : va_P D vwCl (((h0, .inr (1, [.int 0, .int 600, .int 10, .int 0, .int 100000000, .ref q28, .ref q40, .ref q52, .null, .null, .null, .null])) : Nat × va_E) :: (((([] : va_W) ++ (((q28, .inl (cy 4, 21, xr (fun i => some (r28 i)))) : Nat × va_E) :: (List.range 21).map (fun i => ((r28 i, .inl (cy 1, (21, xl (fun _ => 0)))) : Nat × va_E)))) ++ (((q40, .inl (cy 3, 21, xr (fun i => some (r40 i)))) : Nat × va_E) :: (List.range 21).map (fun i => ((r40 i, .inl (cy 0, (21, .inl (fun _ => 0)))) : Nat × va_E)))) ++ (((q52, .inl (cy 3, 41, xr (fun i => some (r52 i)))) : Nat × va_E) :: (List.range 41).map (fun i => ((r52 i, .inl (cy 0, (8, .inl (fun _ => 0)))) : Nat × va_E))))) H := hP
  have hD : va_D A (((h0, .inr (1, [.int 0, .int 600, .int 10, .int 0, .int 100000000, .ref q28, .ref q40, .ref q52, .null, .null, .null, .null])) : Nat × va_E) :: (((([] : va_W) ++ (((q28, .inl (cy 4, 21, xr (fun i => some (r28 i)))) : Nat × va_E) :: (List.range 21).map (fun i => ((r28 i, .inl (cy 1, (21, xl (fun _ => 0)))) : Nat × va_E)))) ++ (((q40, .inl (cy 3, 21, xr (fun i => some (r40 i)))) : Nat × va_E) :: (List.range 21).map (fun i => ((r40 i, .inl (cy 0, (21, .inl (fun _ => 0)))) : Nat × va_E)))) ++ (((q52, .inl (cy 3, 41, xr (fun i => some (r52 i)))) : Nat × va_E) :: (List.range 41).map (fun i => ((r52 i, .inl (cy 0, (8, .inl (fun _ => 0)))) : Nat × va_E))))) := hD
  refine lv_aload_n hx hb dX1_init_59 rfl (lv_at hl 0 rfl) ?_
  refine lv_bipush (v := 41) hx hb dX1_init_60 (by decide) ?_
  refine va_newa (atype := .long) (ty := .long) (N' := 41) (a0 := (41, xl (fun _ => 0))) hx hb (hts _ lkX1_init_aclong) rfl hK.1 hP hD hS hA (fun cA => rfl) (by decide) (by decide) (Nat.le_of_ble_eq_true rfl) (Nat.le_of_ble_eq_true rfl) (Nat.le_of_ble_eq_true rfl) dX1_init_62 (fun q62 cA H hK2 hP hD hS => ?_)
  have ecA : cA = cy 1 := by
    have h1 : va_RA s cA .long := (hK2.2 5 (cA, .long) rfl).2
    have h2 : va_RA s (cy 1) .long := (hK.1.2 1 (cy 1, .long) rfl).2
    exact Option.some.inj (h1.symm.trans h2)
  subst ecA
  have hP : va_P D vwCl (((h0, .inr (1, [.int 0, .int 600, .int 10, .int 0, .int 100000000, .ref q28, .ref q40, .ref q52, .null, .null, .null, .null])) : Nat × va_E) :: ((((([] : va_W) ++ (((q28, .inl (cy 4, 21, xr (fun i => some (r28 i)))) : Nat × va_E) :: (List.range 21).map (fun i => ((r28 i, .inl (cy 1, (21, xl (fun _ => 0)))) : Nat × va_E)))) ++ (((q40, .inl (cy 3, 21, xr (fun i => some (r40 i)))) : Nat × va_E) :: (List.range 21).map (fun i => ((r40 i, .inl (cy 0, (21, .inl (fun _ => 0)))) : Nat × va_E)))) ++ (((q52, .inl (cy 3, 41, xr (fun i => some (r52 i)))) : Nat × va_E) :: (List.range 41).map (fun i => ((r52 i, .inl (cy 0, (8, .inl (fun _ => 0)))) : Nat × va_E)))) ++ [((q62, .inl (cy 1, 41, xl (fun _ => 0))) : Nat × va_E)])) H := hP
  have hD : va_D A (((h0, .inr (1, [.int 0, .int 600, .int 10, .int 0, .int 100000000, .ref q28, .ref q40, .ref q52, .null, .null, .null, .null])) : Nat × va_E) :: ((((([] : va_W) ++ (((q28, .inl (cy 4, 21, xr (fun i => some (r28 i)))) : Nat × va_E) :: (List.range 21).map (fun i => ((r28 i, .inl (cy 1, (21, xl (fun _ => 0)))) : Nat × va_E)))) ++ (((q40, .inl (cy 3, 21, xr (fun i => some (r40 i)))) : Nat × va_E) :: (List.range 21).map (fun i => ((r40 i, .inl (cy 0, (21, .inl (fun _ => 0)))) : Nat × va_E)))) ++ (((q52, .inl (cy 3, 41, xr (fun i => some (r52 i)))) : Nat × va_E) :: (List.range 41).map (fun i => ((r52 i, .inl (cy 0, (8, .inl (fun _ => 0)))) : Nat × va_E)))) ++ [((q62, .inl (cy 1, 41, xl (fun _ => 0))) : Nat × va_E)])) := hD
  refine W.widen (k := 87) (n := 1334) (Nat.le_of_ble_eq_true rfl) (Nat.le_of_ble_eq_true rfl) ?_
  refine va_putF (D := D) (ci := 1) (v := .ref q62) (ty := .array .long) (C := RX1) (T := TX1) (N := 12) hx hb hts iwX1_init tyX1 tyX1_ok nmX1 hown hK.1 hP hD hS 0 rfl rfl 8 (by decide) (hts _ lkX1_init_35) (fun _ h9 => h9) rfl hin rfl (by decide +kernel) rfl rfl (Nat.le_of_ble_eq_true rfl) dX1_init_64 (fun H locs hP hD hS => ?_)
  have hP : va_P D vwCl (((h0, .inr (1, [.int 0, .int 600, .int 10, .int 0, .int 100000000, .ref q28, .ref q40, .ref q52, .ref q62, .null, .null, .null])) : Nat × va_E) :: ((((([] : va_W) ++ (((q28, .inl (cy 4, 21, xr (fun i => some (r28 i)))) : Nat × va_E) :: (List.range 21).map (fun i => ((r28 i, .inl (cy 1, (21, xl (fun _ => 0)))) : Nat × va_E)))) ++ (((q40, .inl (cy 3, 21, xr (fun i => some (r40 i)))) : Nat × va_E) :: (List.range 21).map (fun i => ((r40 i, .inl (cy 0, (21, .inl (fun _ => 0)))) : Nat × va_E)))) ++ (((q52, .inl (cy 3, 41, xr (fun i => some (r52 i)))) : Nat × va_E) :: (List.range 41).map (fun i => ((r52 i, .inl (cy 0, (8, .inl (fun _ => 0)))) : Nat × va_E)))) ++ [((q62, .inl (cy 1, 41, xl (fun _ => 0))) : Nat × va_E)])) H := hP
  have hD : va_D A (((h0, .inr (1, [.int 0, .int 600, .int 10, .int 0, .int 100000000, .ref q28, .ref q40, .ref q52, .ref q62, .null, .null, .null])) : Nat × va_E) :: ((((([] : va_W) ++ (((q28, .inl (cy 4, 21, xr (fun i => some (r28 i)))) : Nat × va_E) :: (List.range 21).map (fun i => ((r28 i, .inl (cy 1, (21, xl (fun _ => 0)))) : Nat × va_E)))) ++ (((q40, .inl (cy 3, 21, xr (fun i => some (r40 i)))) : Nat × va_E) :: (List.range 21).map (fun i => ((r40 i, .inl (cy 0, (21, .inl (fun _ => 0)))) : Nat × va_E)))) ++ (((q52, .inl (cy 3, 41, xr (fun i => some (r52 i)))) : Nat × va_E) :: (List.range 41).map (fun i => ((r52 i, .inl (cy 0, (8, .inl (fun _ => 0)))) : Nat × va_E)))) ++ [((q62, .inl (cy 1, 41, xl (fun _ => 0))) : Nat × va_E)])) := hD
  refine lv_aload_n hx hb dX1_init_67 rfl (lv_at hl 0 rfl) ?_
  refine lv_bipush (v := 41) hx hb dX1_init_68 (by decide) ?_
  refine va_newa (atype := .int) (ty := .int) (N' := 41) (a0 := (41, .inl (fun _ => 0))) hx hb (hts _ lkX1_init_acint) rfl hK.1 hP hD hS hA (fun cA => rfl) (by decide) (by decide) (Nat.le_of_ble_eq_true rfl) (Nat.le_of_ble_eq_true rfl) (Nat.le_of_ble_eq_true rfl) dX1_init_70 (fun q70 cA H hK2 hP hD hS => ?_)
  have ecA : cA = cy 0 := by
    have h1 : va_RA s cA .int := (hK2.2 5 (cA, .int) rfl).2
    have h2 : va_RA s (cy 0) .int := (hK.1.2 0 (cy 0, .int) rfl).2
    exact Option.some.inj (h1.symm.trans h2)
  subst ecA
  have hP : va_P D vwCl (((h0, .inr (1, [.int 0, .int 600, .int 10, .int 0, .int 100000000, .ref q28, .ref q40, .ref q52, .ref q62, .null, .null, .null])) : Nat × va_E) :: (((((([] : va_W) ++ (((q28, .inl (cy 4, 21, xr (fun i => some (r28 i)))) : Nat × va_E) :: (List.range 21).map (fun i => ((r28 i, .inl (cy 1, (21, xl (fun _ => 0)))) : Nat × va_E)))) ++ (((q40, .inl (cy 3, 21, xr (fun i => some (r40 i)))) : Nat × va_E) :: (List.range 21).map (fun i => ((r40 i, .inl (cy 0, (21, .inl (fun _ => 0)))) : Nat × va_E)))) ++ (((q52, .inl (cy 3, 41, xr (fun i => some (r52 i)))) : Nat × va_E) :: (List.range 41).map (fun i => ((r52 i, .inl (cy 0, (8, .inl (fun _ => 0)))) : Nat × va_E)))) ++ [((q62, .inl (cy 1, 41, xl (fun _ => 0))) : Nat × va_E)]) ++ [((q70, .inl (cy 0, 41, .inl (fun _ => 0))) : Nat × va_E)])) H := hP
  have hD : va_D A (((h0, .inr (1, [.int 0, .int 600, .int 10, .int 0, .int 100000000, .ref q28, .ref q40, .ref q52, .ref q62, .null, .null, .null])) : Nat × va_E) :: (((((([] : va_W) ++ (((q28, .inl (cy 4, 21, xr (fun i => some (r28 i)))) : Nat × va_E) :: (List.range 21).map (fun i => ((r28 i, .inl (cy 1, (21, xl (fun _ => 0)))) : Nat × va_E)))) ++ (((q40, .inl (cy 3, 21, xr (fun i => some (r40 i)))) : Nat × va_E) :: (List.range 21).map (fun i => ((r40 i, .inl (cy 0, (21, .inl (fun _ => 0)))) : Nat × va_E)))) ++ (((q52, .inl (cy 3, 41, xr (fun i => some (r52 i)))) : Nat × va_E) :: (List.range 41).map (fun i => ((r52 i, .inl (cy 0, (8, .inl (fun _ => 0)))) : Nat × va_E)))) ++ [((q62, .inl (cy 1, 41, xl (fun _ => 0))) : Nat × va_E)]) ++ [((q70, .inl (cy 0, 41, .inl (fun _ => 0))) : Nat × va_E)])) := hD
  refine W.widen (k := 88) (n := 1375) (Nat.le_of_ble_eq_true rfl) (Nat.le_of_ble_eq_true rfl) ?_
  refine va_putF (D := D) (ci := 1) (v := .ref q70) (ty := .array .int) (C := RX1) (T := TX1) (N := 12) hx hb hts iwX1_init tyX1 tyX1_ok nmX1 hown hK.1 hP hD hS 0 rfl rfl 9 (by decide) (hts _ lkX1_init_39) (fun _ h9 => h9) rfl hin rfl (by decide +kernel) rfl rfl (Nat.le_of_ble_eq_true rfl) dX1_init_72 (fun H locs hP hD hS => ?_)
  have hP : va_P D vwCl (((h0, .inr (1, [.int 0, .int 600, .int 10, .int 0, .int 100000000, .ref q28, .ref q40, .ref q52, .ref q62, .ref q70, .null, .null])) : Nat × va_E) :: (((((([] : va_W) ++ (((q28, .inl (cy 4, 21, xr (fun i => some (r28 i)))) : Nat × va_E) :: (List.range 21).map (fun i => ((r28 i, .inl (cy 1, (21, xl (fun _ => 0)))) : Nat × va_E)))) ++ (((q40, .inl (cy 3, 21, xr (fun i => some (r40 i)))) : Nat × va_E) :: (List.range 21).map (fun i => ((r40 i, .inl (cy 0, (21, .inl (fun _ => 0)))) : Nat × va_E)))) ++ (((q52, .inl (cy 3, 41, xr (fun i => some (r52 i)))) : Nat × va_E) :: (List.range 41).map (fun i => ((r52 i, .inl (cy 0, (8, .inl (fun _ => 0)))) : Nat × va_E)))) ++ [((q62, .inl (cy 1, 41, xl (fun _ => 0))) : Nat × va_E)]) ++ [((q70, .inl (cy 0, 41, .inl (fun _ => 0))) : Nat × va_E)])) H := hP
  have hD : va_D A (((h0, .inr (1, [.int 0, .int 600, .int 10, .int 0, .int 100000000, .ref q28, .ref q40, .ref q52, .ref q62, .ref q70, .null, .null])) : Nat × va_E) :: (((((([] : va_W) ++ (((q28, .inl (cy 4, 21, xr (fun i => some (r28 i)))) : Nat × va_E) :: (List.range 21).map (fun i => ((r28 i, .inl (cy 1, (21, xl (fun _ => 0)))) : Nat × va_E)))) ++ (((q40, .inl (cy 3, 21, xr (fun i => some (r40 i)))) : Nat × va_E) :: (List.range 21).map (fun i => ((r40 i, .inl (cy 0, (21, .inl (fun _ => 0)))) : Nat × va_E)))) ++ (((q52, .inl (cy 3, 41, xr (fun i => some (r52 i)))) : Nat × va_E) :: (List.range 41).map (fun i => ((r52 i, .inl (cy 0, (8, .inl (fun _ => 0)))) : Nat × va_E)))) ++ [((q62, .inl (cy 1, 41, xl (fun _ => 0))) : Nat × va_E)]) ++ [((q70, .inl (cy 0, 41, .inl (fun _ => 0))) : Nat × va_E)])) := hD
  refine lv_aload_n hx hb dX1_init_75 rfl (lv_at hl 0 rfl) ?_
  refine lv_bipush (v := 8) hx hb dX1_init_76 (by decide) ?_
  refine va_newa (atype := .long) (ty := .long) (N' := 8) (a0 := (8, xl (fun _ => 0))) hx hb (hts _ lkX1_init_aclong) rfl hK.1 hP hD hS hA (fun cA => rfl) (by decide) (by decide) (Nat.le_of_ble_eq_true rfl) (Nat.le_of_ble_eq_true rfl) (Nat.le_of_ble_eq_true rfl) dX1_init_78 (fun q78 cA H hK2 hP hD hS => ?_)
  have ecA : cA = cy 1 := by
    have h1 : va_RA s cA .long := (hK2.2 5 (cA, .long) rfl).2
    have h2 : va_RA s (cy 1) .long := (hK.1.2 1 (cy 1, .long) rfl).2
    exact Option.some.inj (h1.symm.trans h2)
  subst ecA
  have hP : va_P D vwCl (((h0, .inr (1, [.int 0, .int 600, .int 10, .int 0, .int 100000000, .ref q28, .ref q40, .ref q52, .ref q62, .ref q70, .null, .null])) : Nat × va_E) :: ((((((([] : va_W) ++ (((q28, .inl (cy 4, 21, xr (fun i => some (r28 i)))) : Nat × va_E) :: (List.range 21).map (fun i => ((r28 i, .inl (cy 1, (21, xl (fun _ => 0)))) : Nat × va_E)))) ++ (((q40, .inl (cy 3, 21, xr (fun i => some (r40 i)))) : Nat × va_E) :: (List.range 21).map (fun i => ((r40 i, .inl (cy 0, (21, .inl (fun _ => 0)))) : Nat × va_E)))) ++ (((q52, .inl (cy 3, 41, xr (fun i => some (r52 i)))) : Nat × va_E) :: (List.range 41).map (fun i => ((r52 i, .inl (cy 0, (8, .inl (fun _ => 0)))) : Nat × va_E)))) ++ [((q62, .inl (cy 1, 41, xl (fun _ => 0))) : Nat × va_E)]) ++ [((q70, .inl (cy 0, 41, .inl (fun _ => 0))) : Nat × va_E)]) ++ [((q78, .inl (cy 1, 8, xl (fun _ => 0))) : Nat × va_E)])) H := hP
  have hD : va_D A (((h0, .inr (1, [.int 0, .int 600, .int 10, .int 0, .int 100000000, .ref q28, .ref q40, .ref q52, .ref q62, .ref q70, .null, .null])) : Nat × va_E) :: ((((((([] : va_W) ++ (((q28, .inl (cy 4, 21, xr (fun i => some (r28 i)))) : Nat × va_E) :: (List.range 21).map (fun i => ((r28 i, .inl (cy 1, (21, xl (fun _ => 0)))) : Nat × va_E)))) ++ (((q40, .inl (cy 3, 21, xr (fun i => some (r40 i)))) : Nat × va_E) :: (List.range 21).map (fun i => ((r40 i, .inl (cy 0, (21, .inl (fun _ => 0)))) : Nat × va_E)))) ++ (((q52, .inl (cy 3, 41, xr (fun i => some (r52 i)))) : Nat × va_E) :: (List.range 41).map (fun i => ((r52 i, .inl (cy 0, (8, .inl (fun _ => 0)))) : Nat × va_E)))) ++ [((q62, .inl (cy 1, 41, xl (fun _ => 0))) : Nat × va_E)]) ++ [((q70, .inl (cy 0, 41, .inl (fun _ => 0))) : Nat × va_E)]) ++ [((q78, .inl (cy 1, 8, xl (fun _ => 0))) : Nat × va_E)])) := hD
  refine W.widen (k := 89) (n := 1383) (Nat.le_of_ble_eq_true rfl) (Nat.le_of_ble_eq_true rfl) ?_
  refine va_putF (D := D) (ci := 1) (v := .ref q78) (ty := .array .long) (C := RX1) (T := TX1) (N := 12) hx hb hts iwX1_init tyX1 tyX1_ok nmX1 hown hK.1 hP hD hS 0 rfl rfl 10 (by decide) (hts _ lkX1_init_43) (fun _ h9 => h9) rfl hin rfl (by decide +kernel) rfl rfl (Nat.le_of_ble_eq_true rfl) dX1_init_80 (fun H locs hP hD hS => ?_)
  have hP : va_P D vwCl (((h0, .inr (1, [.int 0, .int 600, .int 10, .int 0, .int 100000000, .ref q28, .ref q40, .ref q52, .ref q62, .ref q70, .ref q78, .null])) : Nat × va_E) :: ((((((([] : va_W) ++ (((q28, .inl (cy 4, 21, xr (fun i => some (r28 i)))) : Nat × va_E) :: (List.range 21).map (fun i => ((r28 i, .inl (cy 1, (21, xl (fun _ => 0)))) : Nat × va_E)))) ++ (((q40, .inl (cy 3, 21, xr (fun i => some (r40 i)))) : Nat × va_E) :: (List.range 21).map (fun i => ((r40 i, .inl (cy 0, (21, .inl (fun _ => 0)))) : Nat × va_E)))) ++ (((q52, .inl (cy 3, 41, xr (fun i => some (r52 i)))) : Nat × va_E) :: (List.range 41).map (fun i => ((r52 i, .inl (cy 0, (8, .inl (fun _ => 0)))) : Nat × va_E)))) ++ [((q62, .inl (cy 1, 41, xl (fun _ => 0))) : Nat × va_E)]) ++ [((q70, .inl (cy 0, 41, .inl (fun _ => 0))) : Nat × va_E)]) ++ [((q78, .inl (cy 1, 8, xl (fun _ => 0))) : Nat × va_E)])) H := hP
  have hD : va_D A (((h0, .inr (1, [.int 0, .int 600, .int 10, .int 0, .int 100000000, .ref q28, .ref q40, .ref q52, .ref q62, .ref q70, .ref q78, .null])) : Nat × va_E) :: ((((((([] : va_W) ++ (((q28, .inl (cy 4, 21, xr (fun i => some (r28 i)))) : Nat × va_E) :: (List.range 21).map (fun i => ((r28 i, .inl (cy 1, (21, xl (fun _ => 0)))) : Nat × va_E)))) ++ (((q40, .inl (cy 3, 21, xr (fun i => some (r40 i)))) : Nat × va_E) :: (List.range 21).map (fun i => ((r40 i, .inl (cy 0, (21, .inl (fun _ => 0)))) : Nat × va_E)))) ++ (((q52, .inl (cy 3, 41, xr (fun i => some (r52 i)))) : Nat × va_E) :: (List.range 41).map (fun i => ((r52 i, .inl (cy 0, (8, .inl (fun _ => 0)))) : Nat × va_E)))) ++ [((q62, .inl (cy 1, 41, xl (fun _ => 0))) : Nat × va_E)]) ++ [((q70, .inl (cy 0, 41, .inl (fun _ => 0))) : Nat × va_E)]) ++ [((q78, .inl (cy 1, 8, xl (fun _ => 0))) : Nat × va_E)])) := hD
  refine lv_aload_n hx hb dX1_init_83 rfl (lv_at hl 0 rfl) ?_
  refine lv_bipush (v := 22) hx hb dX1_init_84 (by decide) ?_
  refine va_newa (atype := .int) (ty := .int) (N' := 22) (a0 := (22, .inl (fun _ => 0))) hx hb (hts _ lkX1_init_acint) rfl hK.1 hP hD hS hA (fun cA => rfl) (by decide) (by decide) (Nat.le_of_ble_eq_true rfl) (Nat.le_of_ble_eq_true rfl) (Nat.le_of_ble_eq_true rfl) dX1_init_86 (fun q86 cA H hK2 hP hD hS => ?_)
  have ecA : cA = cy 0 := by
    have h1 : va_RA s cA .int := (hK2.2 5 (cA, .int) rfl).2
    have h2 : va_RA s (cy 0) .int := (hK.1.2 0 (cy 0, .int) rfl).2
    exact Option.some.inj (h1.symm.trans h2)
  subst ecA
  have hP : va_P D vwCl (((h0, .inr (1, [.int 0, .int 600, .int 10, .int 0, .int 100000000, .ref q28, .ref q40, .ref q52, .ref q62, .ref q70, .ref q78, .null])) : Nat × va_E) :: (((((((([] : va_W) ++ (((q28, .inl (cy 4, 21, xr (fun i => some (r28 i)))) : Nat × va_E) :: (List.range 21).map (fun i => ((r28 i, .inl (cy 1, (21, xl (fun _ => 0)))) : Nat × va_E)))) ++ (((q40, .inl (cy 3, 21, xr (fun i => some (r40 i)))) : Nat × va_E) :: (List.range 21).map (fun i => ((r40 i, .inl (cy 0, (21, .inl (fun _ => 0)))) : Nat × va_E)))) ++ (((q52, .inl (cy 3, 41, xr (fun i => some (r52 i)))) : Nat × va_E) :: (List.range 41).map (fun i => ((r52 i, .inl (cy 0, (8, .inl (fun _ => 0)))) : Nat × va_E)))) ++ [((q62, .inl (cy 1, 41, xl (fun _ => 0))) : Nat × va_E)]) ++ [((q70, .inl (cy 0, 41, .inl (fun _ => 0))) : Nat × va_E)]) ++ [((q78, .inl (cy 1, 8, xl (fun _ => 0))) : Nat × va_E)]) ++ [((q86, .inl (cy 0, 22, .inl (fun _ => 0))) : Nat × va_E)])) H := hP
  have hD : va_D A (((h0, .inr (1, [.int 0, .int 600, .int 10, .int 0, .int 100000000, .ref q28, .ref q40, .ref q52, .ref q62, .ref q70, .ref q78, .null])) : Nat × va_E) :: (((((((([] : va_W) ++ (((q28, .inl (cy 4, 21, xr (fun i => some (r28 i)))) : Nat × va_E) :: (List.range 21).map (fun i => ((r28 i, .inl (cy 1, (21, xl (fun _ => 0)))) : Nat × va_E)))) ++ (((q40, .inl (cy 3, 21, xr (fun i => some (r40 i)))) : Nat × va_E) :: (List.range 21).map (fun i => ((r40 i, .inl (cy 0, (21, .inl (fun _ => 0)))) : Nat × va_E)))) ++ (((q52, .inl (cy 3, 41, xr (fun i => some (r52 i)))) : Nat × va_E) :: (List.range 41).map (fun i => ((r52 i, .inl (cy 0, (8, .inl (fun _ => 0)))) : Nat × va_E)))) ++ [((q62, .inl (cy 1, 41, xl (fun _ => 0))) : Nat × va_E)]) ++ [((q70, .inl (cy 0, 41, .inl (fun _ => 0))) : Nat × va_E)]) ++ [((q78, .inl (cy 1, 8, xl (fun _ => 0))) : Nat × va_E)]) ++ [((q86, .inl (cy 0, 22, .inl (fun _ => 0))) : Nat × va_E)])) := hD
  refine W.widen (k := 90) (n := 1405) (Nat.le_of_ble_eq_true rfl) (Nat.le_of_ble_eq_true rfl) ?_
  refine va_putF (D := D) (ci := 1) (v := .ref q86) (ty := .array .int) (C := RX1) (T := TX1) (N := 12) hx hb hts iwX1_init tyX1 tyX1_ok nmX1 hown hK.1 hP hD hS 0 rfl rfl 11 (by decide) (hts _ lkX1_init_46) (fun _ h9 => h9) rfl hin rfl (by decide +kernel) rfl rfl (Nat.le_of_ble_eq_true rfl) dX1_init_88 (fun H locs hP hD hS => ?_)
  have hP : va_P D vwCl (((h0, .inr (1, [.int 0, .int 600, .int 10, .int 0, .int 100000000, .ref q28, .ref q40, .ref q52, .ref q62, .ref q70, .ref q78, .ref q86])) : Nat × va_E) :: (((((((([] : va_W) ++ (((q28, .inl (cy 4, 21, xr (fun i => some (r28 i)))) : Nat × va_E) :: (List.range 21).map (fun i => ((r28 i, .inl (cy 1, (21, xl (fun _ => 0)))) : Nat × va_E)))) ++ (((q40, .inl (cy 3, 21, xr (fun i => some (r40 i)))) : Nat × va_E) :: (List.range 21).map (fun i => ((r40 i, .inl (cy 0, (21, .inl (fun _ => 0)))) : Nat × va_E)))) ++ (((q52, .inl (cy 3, 41, xr (fun i => some (r52 i)))) : Nat × va_E) :: (List.range 41).map (fun i => ((r52 i, .inl (cy 0, (8, .inl (fun _ => 0)))) : Nat × va_E)))) ++ [((q62, .inl (cy 1, 41, xl (fun _ => 0))) : Nat × va_E)]) ++ [((q70, .inl (cy 0, 41, .inl (fun _ => 0))) : Nat × va_E)]) ++ [((q78, .inl (cy 1, 8, xl (fun _ => 0))) : Nat × va_E)]) ++ [((q86, .inl (cy 0, 22, .inl (fun _ => 0))) : Nat × va_E)])) H := hP
  have hD : va_D A (((h0, .inr (1, [.int 0, .int 600, .int 10, .int 0, .int 100000000, .ref q28, .ref q40, .ref q52, .ref q62, .ref q70, .ref q78, .ref q86])) : Nat × va_E) :: (((((((([] : va_W) ++ (((q28, .inl (cy 4, 21, xr (fun i => some (r28 i)))) : Nat × va_E) :: (List.range 21).map (fun i => ((r28 i, .inl (cy 1, (21, xl (fun _ => 0)))) : Nat × va_E)))) ++ (((q40, .inl (cy 3, 21, xr (fun i => some (r40 i)))) : Nat × va_E) :: (List.range 21).map (fun i => ((r40 i, .inl (cy 0, (21, .inl (fun _ => 0)))) : Nat × va_E)))) ++ (((q52, .inl (cy 3, 41, xr (fun i => some (r52 i)))) : Nat × va_E) :: (List.range 41).map (fun i => ((r52 i, .inl (cy 0, (8, .inl (fun _ => 0)))) : Nat × va_E)))) ++ [((q62, .inl (cy 1, 41, xl (fun _ => 0))) : Nat × va_E)]) ++ [((q70, .inl (cy 0, 41, .inl (fun _ => 0))) : Nat × va_E)]) ++ [((q78, .inl (cy 1, 8, xl (fun _ => 0))) : Nat × va_E)]) ++ [((q86, .inl (cy 0, 22, .inl (fun _ => 0))) : Nat × va_E)])) := hD
  have hP : va_P D vwCl (w1X1 cy (adX1 h0 q28 q40 q52 q62 q70 q78 q86 r28 r40 r52)) H := vaP_perm (permX1 _ _ _ _ _ _ _ _ _ _ _) hP
  have hD : va_D A (w1X1 cy (adX1 h0 q28 q40 q52 q62 q70 q78 q86 r28 r40 r52)) := vaD_perm (permX1 _ _ _ _ _ _ _ _ _ _ _) hD
  have hpost : (adX1 h0 q28 q40 q52 q62 q70 q78 q86 r28 r40 r52) 2 0 = h0 := rfl
  exact W.vret hx hb hr (fun t ht hW => ⟨⟨_, rfl, hpost, by rw [ht]; exact hP, hD⟩, hS.F ht⟩) hS.2.2 dX1_init_91

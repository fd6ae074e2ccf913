abbrev rmX0_priceAt : Room := { frames := 2, cells := 0, slots := 0, locals := 46 }
theorem lkX0_priceAt_28 : Cond.fieldLink RX0 28 "DeliveryBasket$Bond" "spread" "I" ∈ wsX0_priceAt := by decide +kernel
theorem iwX0_priceAt_X0 : ∀ w ∈ wsX00, w ∈ wsX0_priceAt := fun _ h => List.mem_cons_of_mem _ (List.mem_append_right _ h)
theorem lkX0_priceAt_70 : Cond.methodLink RX0 70 Lib.Math.max.name ∈ wsX0_priceAt := by decide +kernel
theorem lkX0_priceAt_stmax : Cond.static Lib.Math.max.name ∈ wsX0_priceAt := by decide +kernel
theorem lkX0_priceAt_iniM : Cond.initialized "java/lang/Math" ∈ wsX0_priceAt := by decide +kernel
theorem lkX0_priceAt_comax : Cond.code Lib.Math.max.name Lib.Math.max.code 2 (some .int) ∈ wsX0_priceAt := by decide +kernel
def mX0_priceAt (σ : ST) (k0 : Nat) (a1 : Int32) : Option (Int32 × ST) := (mX0_worthAt σ k0 (if (0 : Int32) < (a1 + (gI σ 2 k0 4)) then (a1 + (gI σ 2 k0 4)) else (0 : Int32))).bind fun q_1 => some (q_1.1, q_1.2)
set_option maxHeartbeats 4000000 in
set_option maxRecDepth 100000 in
theorem ctX0_priceAt (l : Launch) (D : va_G) (cy : Nat → ClassId) (ad : Nat → Nat → Nat) (σ : ST) {k0 : Nat} (hk0 : k0 < 8) (kk0 : Nat) (a1 : Int32) (q : Int32 × ST) (hm : mX0_priceAt σ k0 a1 = some q) : zMi l yX0_priceAt wsX0_priceAt rmX0_priceAt D cy [.ref (ad 13 k0), .int a1] (cw cy ad σ) q.1 (cw cy ad q.2) := by
  intro sz
  refine Met.ofW (cc := cX0_priceAt) (maxL := 2) (ret := (some .int)) (by decide) rfl ?_
  intro p e s m args below meth c s₁ B hml hv
  obtain ⟨rfl, hsz, hP, hK, hD0⟩ := hv
  have hx := B.exec
  have hb := B.bytes
  have hr := B.returns
  have hts := atoms_spec (ws := wsX0_priceAt) B.pre
  have hown : s.vm.findClass RX0 = some m.cls := findClass_of_methodNamed B.named
  have hlocks := B.notSynchronized
  subst hsz
  have hD := hD0.self (sz := s.heap.size)
  generalize hAe : va_A (cw cy ad σ) s.heap.size = A at hD ⊢
  have hA : ∀ q : Nat, s.heap.size ≤ q → A q := fun q h => by rw [← hAe]; exact Or.inr h
  have hS : va_S A s.heap s.heap [] := va_S.rf
  have C : Cx p s m _ meth c cX0_priceAt 2 (some .int) RX0 wsX0_priceAt D cy A := ⟨hx, hb, hml, hown, hts, hr, hlocks, hK, hA⟩
  have hl := lv_entry ([.ref (ad 13 k0), .int a1]) (n := 2) (Nat.le_of_ble_eq_true rfl)
  rw [lg_entry_eq]
  generalize (lg_sl ([.ref (ad 13 k0), .int a1]) ++ List.replicate (2 - (lg_sl ([.ref (ad 13 k0), .int a1])).length) Slot.unset).toArray = ls at hl ⊢
  have hl : lv_has ls 2 [(0, .ref (ad 13 k0)), (1, .int a1)] := hl
  unfold mX0_priceAt at hm
  refine lv_aload_n hx hb dX0_priceAt_0 rfl (lv_at hl 0 rfl) ?_
  refine lv_iconst (v := 0) hx hb dX0_priceAt_1 (by decide) ?_
  refine lv_iload_n hx hb dX0_priceAt_2 rfl (lv_at hl 1 rfl) ?_
  refine lv_aload_n hx hb dX0_priceAt_3 rfl (lv_at hl 0 rfl) ?_
  refine va_get (D := D) (ci := 0) (v := .int (gI σ 2 k0 4)) (C := RX0) (T := TX0) (N := 10) hx hb hts iwX0_priceAt_X0 hown hK.1 hP (13 + k0) (cw_13 hk0) rfl 4 (by decide) (hts _ lkX0_priceAt_28) (fun _ h9 => h9) rfl dX0_priceAt_4 ?_
  refine lv_iadd hx hb dX0_priceAt_7 ?_
  refine va_mmax hx hb (hml.trans hl.1.symm) hown (hts _ lkX0_priceAt_70) (hts _ lkX0_priceAt_stmax) (hts _ lkX0_priceAt_iniM) (hts _ lkX0_priceAt_comax) (Nat.le_of_ble_eq_true rfl) (Nat.le_of_ble_eq_true rfl) (Nat.zero_le _) (Nat.zero_le _) dX0_priceAt_8 ?_
  obtain ⟨q_1, hq_1, hm⟩ := ob hm
  refine zc_i (zr_V [.int (if (0 : Int32) < (a1 + (gI σ 2 k0 4)) then (a1 + (gI σ 2 k0 4)) else (0 : Int32))] [] ⟨hx, hb, hml, hown, hts⟩ (ctX0_worthAt l D cy ad σ hk0 k0 (if (0 : Int32) < (a1 + (gI σ 2 k0 4)) then (a1 + (gI σ 2 k0 4)) else (0 : Int32)) q_1 hq_1 _) (cwV 1 hts gX0_priceAt_X0_worthAt rfl rfl rfl (by decide +kernel) ⟨Nat.le_of_ble_eq_true rfl, Nat.le_of_ble_eq_true rfl⟩) hK hP hD (13 + k0) (cw_13 hk0) rfl rfl rfl hl.1 rfl (Nat.le_of_ble_eq_true rfl) dX0_priceAt_11 ⟨Nat.zero_le _, Nat.zero_le _⟩) hD hS hA (fun H locs hP hD hS => ?_)
  exact z_i hx hb hr hlocks hm hP hD hS dX0_priceAt_14
abbrev rmX0_invoiceBy : Room := { frames := 0, cells := 0, slots := 0, locals := 0 }
theorem lkX0_invoiceBy_67 : Cond.fieldLink RX0 67 "DeliveryBasket$Bond" "factor" "I" ∈ wsX0_invoiceBy := by decide +kernel
theorem iwX0_invoiceBy_X0 : ∀ w ∈ wsX00, w ∈ wsX0_invoiceBy := fun _ h => List.mem_cons_of_mem _ (List.mem_append_right _ h)
theorem lkX0_invoiceBy_58 : Cond.constantLong RX0 58 (10000) ∈ wsX0_invoiceBy := by decide +kernel
def mX0_invoiceBy (σ : ST) (k0 : Nat) (a1 : Int64) : Option (Int64) := some ((a1 * (Int32.toInt64 (gI σ 2 k0 7))) / (10000 : Int64))
set_option maxHeartbeats 4000000 in
set_option maxRecDepth 100000 in
theorem ctX0_invoiceBy (l : Launch) (D : va_G) (cy : Nat → ClassId) (ad : Nat → Nat → Nat) (σ : ST) {k0 : Nat} (hk0 : k0 < 8) (kk0 : Nat) (a1 : Int64) (q : Int64) (hm : mX0_invoiceBy σ k0 a1 = some q) : zMl l yX0_invoiceBy wsX0_invoiceBy rmX0_invoiceBy D cy [.ref (ad 13 k0), .long a1] (cw cy ad σ) q (cw cy ad σ) := by
  intro sz
  refine Met.ofW (cc := cX0_invoiceBy) (maxL := 3) (ret := (some .long)) (by decide) rfl ?_
  intro p e s m args below meth c s₁ B hml hv
  obtain ⟨rfl, hsz, hP, hK, hD0⟩ := hv
  have hx := B.exec
  have hb := B.bytes
  have hr := B.returns
  have hts := atoms_spec (ws := wsX0_invoiceBy) B.pre
  have hown : s.vm.findClass RX0 = some m.cls := findClass_of_methodNamed B.named
  have hlocks := B.notSynchronized
  subst hsz
  have hD := hD0.self (sz := s.heap.size)
  generalize hAe : va_A (cw cy ad σ) s.heap.size = A at hD ⊢
  have hA : ∀ q : Nat, s.heap.size ≤ q → A q := fun q h => by rw [← hAe]; exact Or.inr h
  have hS : va_S A s.heap s.heap [] := va_S.rf
  have C : Cx p s m _ meth c cX0_invoiceBy 3 (some .long) RX0 wsX0_invoiceBy D cy A := ⟨hx, hb, hml, hown, hts, hr, hlocks, hK, hA⟩
  have hl := lv_entry ([.ref (ad 13 k0), .long a1]) (n := 3) (Nat.le_of_ble_eq_true rfl)
  rw [lg_entry_eq]
  generalize (lg_sl ([.ref (ad 13 k0), .long a1]) ++ List.replicate (3 - (lg_sl ([.ref (ad 13 k0), .long a1])).length) Slot.unset).toArray = ls at hl ⊢
  have hl : lv_has ls 3 [(0, .ref (ad 13 k0)), (1, .long a1)] := hl
  unfold mX0_invoiceBy at hm
  refine lv_lload_n hx hb dX0_invoiceBy_0 rfl (lv_at hl 1 rfl) ?_
  refine lv_aload_n hx hb dX0_invoiceBy_1 rfl (lv_at hl 0 rfl) ?_
  refine va_get (D := D) (ci := 0) (v := .int (gI σ 2 k0 7)) (C := RX0) (T := TX0) (N := 10) hx hb hts iwX0_invoiceBy_X0 hown hK.1 hP (13 + k0) (cw_13 hk0) rfl 7 (by decide) (hts _ lkX0_invoiceBy_67) (fun _ h9 => h9) rfl dX0_invoiceBy_2 ?_
  refine lv_i2l hx hb dX0_invoiceBy_5 rfl ?_
  refine lv_lmul hx hb dX0_invoiceBy_6 ?_
  refine lv_ldc2 (v := 10000) hx hb hown (hts _ lkX0_invoiceBy_58) dX0_invoiceBy_7 ?_
  refine lv_ldiv hx hb dX0_invoiceBy_10 (by decide) ?_
  exact z_pl hx hb hr hlocks hm hP hD hS dX0_invoiceBy_11

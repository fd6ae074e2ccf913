abbrev rmX3_thrown : Room := { frames := 0, cells := 0, slots := 0, locals := 0 }
theorem lkX3_thrown_61 : Cond.fieldLink RX3 61 "DeliveryBasketModel" "thrown" "I" ∈ wsX3_thrown := by decide +kernel
theorem iwX3_thrown_X3 : ∀ w ∈ wsX30, w ∈ wsX3_thrown := fun _ h => List.mem_cons_of_mem _ (List.mem_append_right _ h)
def mX3_thrown (σ : ST) : Option (Int32) := some (gI σ 0 0 10)
set_option maxHeartbeats 4000000 in
set_option maxRecDepth 100000 in
theorem ctX3_thrown (l : Launch) (D : va_G) (cy : Nat → ClassId) (ad : Nat → Nat → Nat) (σ : ST)  (q : Int32) (hm : mX3_thrown σ = some q) : zMi l yX3_thrown wsX3_thrown rmX3_thrown D cy [.ref (ad 0 0)] (mw cy ad σ) q (mw cy ad σ) := by
  intro sz
  refine Met.ofW (cc := cX3_thrown) (maxL := 1) (ret := (some .int)) (by decide) rfl ?_
  intro p e s m args below meth c s₁ B hml hv
  obtain ⟨rfl, hsz, hP, hK, hD0⟩ := hv
  have hx := B.exec
  have hb := B.bytes
  have hr := B.returns
  have hts := atoms_spec (ws := wsX3_thrown) B.pre
  have hown : s.vm.findClass RX3 = some m.cls := findClass_of_methodNamed B.named
  have hlocks := B.notSynchronized
  subst hsz
  have hD := hD0.self (sz := s.heap.size)
  generalize hAe : va_A (mw cy ad σ) s.heap.size = A at hD ⊢
  have hA : ∀ q : Nat, s.heap.size ≤ q → A q := fun q h => by rw [← hAe]; exact Or.inr h
  have hS : va_S A s.heap s.heap [] := va_S.rf
  have C : Cx p s m _ meth c cX3_thrown 1 (some .int) RX3 wsX3_thrown D cy A := ⟨hx, hb, hml, hown, hts, hr, hlocks, hK, hA⟩
  have hl := lv_entry ([.ref (ad 0 0)]) (n := 1) (Nat.le_of_ble_eq_true rfl)
  rw [lg_entry_eq]
  generalize (lg_sl ([.ref (ad 0 0)]) ++ List.replicate (1 - (lg_sl ([.ref (ad 0 0)])).length) Slot.unset).toArray = ls at hl ⊢
  have hl : lv_has ls 1 [(0, .ref (ad 0 0))] := hl
  unfold mX3_thrown at hm
  refine lv_aload_n hx hb dX3_thrown_0 rfl (lv_at hl 0 rfl) ?_
  refine va_get (D := D) (ci := 3) (v := .int (gI σ 0 0 10)) (C := RX3) (T := TX3) (N := 20) hx hb hts iwX3_thrown_X3 hown hK.1 hP 0 mw_0 rfl 10 (by decide) (hts _ lkX3_thrown_61) (fun _ h9 => h9) rfl dX3_thrown_1 ?_
  exact z_pi hx hb hr hlocks hm hP hD hS dX3_thrown_4
abbrev rmX3_refuse : Room := { frames := 0, cells := 0, slots := 0, locals := 0 }
theorem lkX3_refuse_61 : Cond.fieldLink RX3 61 "DeliveryBasketModel" "thrown" "I" ∈ wsX3_refuse := by decide +kernel
theorem iwX3_refuse_X3 : ∀ w ∈ wsX30, w ∈ wsX3_refuse := fun _ h => List.mem_cons_of_mem _ (List.mem_append_right _ h)
def mX3_refuse (σ : ST) : Option (Int32 × ST) := sv (sI σ 0 0 10 (1 : Int32)) fun σ_1 => some ((0 : Int32), σ_1)
set_option maxHeartbeats 4000000 in
set_option maxRecDepth 100000 in
theorem ctX3_refuse (l : Launch) (D : va_G) (cy : Nat → ClassId) (ad : Nat → Nat → Nat) (σ : ST)  (q : Int32 × ST) (hm : mX3_refuse σ = some q) : zMi l yX3_refuse wsX3_refuse rmX3_refuse D cy [.ref (ad 0 0)] (mw cy ad σ) q.1 (mw cy ad q.2) := by
  intro sz
  refine Met.ofW (cc := cX3_refuse) (maxL := 1) (ret := (some .int)) (by decide) rfl ?_
  intro p e s m args below meth c s₁ B hml hv
  obtain ⟨rfl, hsz, hP, hK, hD0⟩ := hv
  have hx := B.exec
  have hb := B.bytes
  have hr := B.returns
  have hts := atoms_spec (ws := wsX3_refuse) B.pre
  have hown : s.vm.findClass RX3 = some m.cls := findClass_of_methodNamed B.named
  have hlocks := B.notSynchronized
  subst hsz
  have hD := hD0.self (sz := s.heap.size)
  generalize hAe : va_A (mw cy ad σ) s.heap.size = A at hD ⊢
  have hA : ∀ q : Nat, s.heap.size ≤ q → A q := fun q h => by rw [← hAe]; exact Or.inr h
  have hS : va_S A s.heap s.heap [] := va_S.rf
  have C : Cx p s m _ meth c cX3_refuse 1 (some .int) RX3 wsX3_refuse D cy A := ⟨hx, hb, hml, hown, hts, hr, hlocks, hK, hA⟩
  have hl := lv_entry ([.ref (ad 0 0)]) (n := 1) (Nat.le_of_ble_eq_true rfl)
  rw [lg_entry_eq]
  generalize (lg_sl ([.ref (ad 0 0)]) ++ List.replicate (1 - (lg_sl ([.ref (ad 0 0)])).length) Slot.unset).toArray = ls at hl ⊢
  have hl : lv_has ls 1 [(0, .ref (ad 0 0))] := hl
  unfold mX3_refuse at hm
  refine lv_aload_n hx hb dX3_refuse_0 rfl (lv_at hl 0 rfl) ?_
  refine lv_iconst (v := 1) hx hb dX3_refuse_1 (by decide) ?_
  refine va_put (D := D) (ci := 3) (v := .int (1 : Int32)) (ty := .int) (C := RX3) (T := TX3) (N := 20) hx hb hts iwX3_refuse_X3 tyX3 tyX3_ok nmX3 hown hK.1 hP hD hS 0 mw_0 rfl 10 (by decide) (hts _ lkX3_refuse_61) (fun _ h9 => h9) rfl (by decide +kernel) rfl rfl (Nat.le_of_ble_eq_true rfl) dX3_refuse_2 (fun H locs hP hD hS => ?_)
  have hP := eP (mw_s0 (σ := σ) (j := 10) (v := (1 : Int32)) (by rfl)) hP
  have hD := eD (mw_s0 (σ := σ) (j := 10) (v := (1 : Int32)) (by rfl)) hD
  obtain ⟨σ_1, e_1, hm⟩ := sv_some hm
  have hP : va_P D vwCl (mw cy ad σ_1) H := by rw [e_1]; exact hP
  have hD : va_D A (mw cy ad σ_1) := by rw [e_1]; exact hD
  refine lv_iconst (v := 0) hx hb dX3_refuse_5 (by decide) ?_
  exact z_i hx hb hr hlocks hm hP hD hS dX3_refuse_6
abbrev rmX3_isBond : Room := { frames := 1, cells := 0, slots := 0, locals := 25 }
theorem lkX3_isBond_64 : Cond.fieldLink RX3 64 "DeliveryBasketModel" "many" "I" ∈ wsX3_isBond := by decide +kernel
theorem iwX3_isBond_X3 : ∀ w ∈ wsX30, w ∈ wsX3_isBond := fun _ h => List.mem_cons_of_mem _ (List.mem_append_right _ h)
def mX3_isBond (σ : ST) (a1 : Int32) : Option (Int32) := (mX3_isIn (Int32.toInt64 a1) (0 : Int64) (Int32.toInt64 ((gI σ 0 0 1) - (1 : Int32)))).bind fun q_1 => gd (zb q_1) (some q_1)
set_option maxHeartbeats 4000000 in
set_option maxRecDepth 100000 in
theorem ctX3_isBond (l : Launch) (D : va_G) (cy : Nat → ClassId) (ad : Nat → Nat → Nat) (σ : ST) (a1 : Int32) (q : Int32) (hm : mX3_isBond σ a1 = some q) : zMi l yX3_isBond wsX3_isBond rmX3_isBond D cy [.ref (ad 0 0), .int a1] (mw cy ad σ) q (mw cy ad σ) := by
  intro sz
  refine Met.ofW (cc := cX3_isBond) (maxL := 2) (ret := (some .boolean)) (by decide) rfl ?_
  intro p e s m args below meth c s₁ B hml hv
  obtain ⟨rfl, hsz, hP, hK, hD0⟩ := hv
  have hx := B.exec
  have hb := B.bytes
  have hr := B.returns
  have hts := atoms_spec (ws := wsX3_isBond) B.pre
  have hown : s.vm.findClass RX3 = some m.cls := findClass_of_methodNamed B.named
  have hlocks := B.notSynchronized
  subst hsz
  have hD := hD0.self (sz := s.heap.size)
  generalize hAe : va_A (mw cy ad σ) s.heap.size = A at hD ⊢
  have hA : ∀ q : Nat, s.heap.size ≤ q → A q := fun q h => by rw [← hAe]; exact Or.inr h
  have hS : va_S A s.heap s.heap [] := va_S.rf
  have C : Cx p s m _ meth c cX3_isBond 2 (some .boolean) RX3 wsX3_isBond D cy A := ⟨hx, hb, hml, hown, hts, hr, hlocks, hK, hA⟩
  have hl := lv_entry ([.ref (ad 0 0), .int a1]) (n := 2) (Nat.le_of_ble_eq_true rfl)
  rw [lg_entry_eq]
  generalize (lg_sl ([.ref (ad 0 0), .int a1]) ++ List.replicate (2 - (lg_sl ([.ref (ad 0 0), .int a1])).length) Slot.unset).toArray = ls at hl ⊢
  have hl : lv_has ls 2 [(0, .ref (ad 0 0)), (1, .int a1)] := hl
  unfold mX3_isBond at hm
  refine lv_iload_n hx hb dX3_isBond_0 rfl (lv_at hl 1 rfl) ?_
  refine lv_i2l hx hb dX3_isBond_1 rfl ?_
  refine lv_lconst (v := 0) hx hb dX3_isBond_2 (by decide) ?_
  refine lv_aload_n hx hb dX3_isBond_3 rfl (lv_at hl 0 rfl) ?_
  refine va_get (D := D) (ci := 3) (v := .int (gI σ 0 0 1)) (C := RX3) (T := TX3) (N := 20) hx hb hts iwX3_isBond_X3 hown hK.1 hP 0 mw_0 rfl 1 (by decide) (hts _ lkX3_isBond_64) (fun _ h9 => h9) rfl dX3_isBond_4 ?_
  refine lv_iconst (v := 1) hx hb dX3_isBond_7 (by decide) ?_
  refine lv_isub hx hb dX3_isBond_8 ?_
  refine lv_i2l hx hb dX3_isBond_9 rfl ?_
  obtain ⟨q_1, hq_1, hm⟩ := ob hm
  refine zc_i (zr_S [.long (Int32.toInt64 a1), .long (0 : Int64), .long (Int32.toInt64 ((gI σ 0 0 1) - (1 : Int32)))] [] ⟨hx, hb, hml, hown, hts⟩ (ctX3_isIn l D cy (mw cy ad σ)  (Int32.toInt64 a1) (0 : Int64) (Int32.toInt64 ((gI σ 0 0 1) - (1 : Int32))) q_1 hq_1 _) (va_cwS 3 hts gX3_isBond_X3_isIn rfl rfl rfl (by decide +kernel) ⟨Nat.le_of_ble_eq_true rfl, Nat.le_of_ble_eq_true rfl⟩) hK hP hD rfl hl.1 rfl (Nat.le_of_ble_eq_true rfl) dX3_isBond_10 ⟨Nat.zero_le _, Nat.zero_le _⟩) hD hS hA (fun H locs hP hD hS => ?_)
  obtain ⟨h_2, hm⟩ := gd_some hm
  exact z_pz hx hb hr hlocks h_2 hm hP hD hS dX3_isBond_13
abbrev rmX3_of1 : Room := { frames := 0, cells := 0, slots := 0, locals := 0 }
theorem lkX3_of1_7 : Cond.fieldLink RX3 7 "DeliveryBasketModel" "bond" "[I" ∈ wsX3_of1 := by decide +kernel
theorem iwX3_of1_X3 : ∀ w ∈ wsX30, w ∈ wsX3_of1 := fun _ h => List.mem_cons_of_mem _ (List.mem_append_right _ h)
def mX3_of1 (σ : ST) (a1 : Int32) (a2 : Int32) : Option (Int32) := gd (inb (((7 : Int32) * a1) + a2) 56) (some (gI σ 1 0 (Int32.toNatClampNeg (((7 : Int32) * a1) + a2))))
set_option maxHeartbeats 4000000 in
set_option maxRecDepth 100000 in
theorem ctX3_of1 (l : Launch) (D : va_G) (cy : Nat → ClassId) (ad : Nat → Nat → Nat) (σ : ST) (a1 : Int32) (a2 : Int32) (q : Int32) (hm : mX3_of1 σ a1 a2 = some q) : zMi l yX3_of1 wsX3_of1 rmX3_of1 D cy [.ref (ad 0 0), .int a1, .int a2] (mw cy ad σ) q (mw cy ad σ) := by
  intro sz
  refine Met.ofW (cc := cX3_of1) (maxL := 3) (ret := (some .int)) (by decide) rfl ?_
  intro p e s m args below meth c s₁ B hml hv
  obtain ⟨rfl, hsz, hP, hK, hD0⟩ := hv
  have hx := B.exec
  have hb := B.bytes
  have hr := B.returns
  have hts := atoms_spec (ws := wsX3_of1) B.pre
  have hown : s.vm.findClass RX3 = some m.cls := findClass_of_methodNamed B.named
  have hlocks := B.notSynchronized
  subst hsz
  have hD := hD0.self (sz := s.heap.size)
  generalize hAe : va_A (mw cy ad σ) s.heap.size = A at hD ⊢
  have hA : ∀ q : Nat, s.heap.size ≤ q → A q := fun q h => by rw [← hAe]; exact Or.inr h
  have hS : va_S A s.heap s.heap [] := va_S.rf
  have C : Cx p s m _ meth c cX3_of1 3 (some .int) RX3 wsX3_of1 D cy A := ⟨hx, hb, hml, hown, hts, hr, hlocks, hK, hA⟩
  have hl := lv_entry ([.ref (ad 0 0), .int a1, .int a2]) (n := 3) (Nat.le_of_ble_eq_true rfl)
  rw [lg_entry_eq]
  generalize (lg_sl ([.ref (ad 0 0), .int a1, .int a2]) ++ List.replicate (3 - (lg_sl ([.ref (ad 0 0), .int a1, .int a2])).length) Slot.unset).toArray = ls at hl ⊢
  have hl : lv_has ls 3 [(0, .ref (ad 0 0)), (1, .int a1), (2, .int a2)] := hl
  unfold mX3_of1 at hm
  refine lv_aload_n hx hb dX3_of1_0 rfl (lv_at hl 0 rfl) ?_
  refine va_get (D := D) (ci := 3) (v := .ref (ad 1 0)) (C := RX3) (T := TX3) (N := 20) hx hb hts iwX3_of1_X3 hown hK.1 hP 0 mw_0 rfl 0 (by decide) (hts _ lkX3_of1_7) (fun _ h9 => h9) rfl dX3_of1_1 ?_
  refine lv_bipush (v := 7) hx hb dX3_of1_4 (by decide) ?_
  refine lv_iload_n hx hb dX3_of1_6 rfl (lv_at hl 1 rfl) ?_
  refine lv_imul hx hb dX3_of1_7 ?_
  refine lv_iload_n hx hb dX3_of1_8 rfl (lv_at hl 2 rfl) ?_
  refine lv_iadd hx hb dX3_of1_9 ?_
  obtain ⟨h_1, hm⟩ := gd_some hm
  refine va_iald hx hb hK.1 hP 1 0 mw_1 rfl (inb_vp h_1) dX3_of1_10 ?_
  exact z_pi hx hb hr hlocks hm hP hD hS dX3_of1_11
abbrev rmX3_bond : Room := { frames := 2, cells := 0, slots := 0, locals := 49 }
theorem lkX3_bond_61 : Cond.fieldLink RX3 61 "DeliveryBasketModel" "thrown" "I" ∈ wsX3_bond := by decide +kernel
theorem iwX3_bond_X3 : ∀ w ∈ wsX30, w ∈ wsX3_bond := fun _ h => List.mem_cons_of_mem _ (List.mem_append_right _ h)
theorem lkX3_bond_64 : Cond.fieldLink RX3 64 "DeliveryBasketModel" "many" "I" ∈ wsX3_bond := by decide +kernel
theorem lkX3_bond_7 : Cond.fieldLink RX3 7 "DeliveryBasketModel" "bond" "[I" ∈ wsX3_bond := by decide +kernel
def mX3_bond (σ : ST) (a1 : Int32) (a2 : Int32) (a3 : Int32) (a4 : Int32) (a5 : Int32) : Option (Int32 × ST) := sv (sI σ 0 0 10 (0 : Int32)) fun σ_1 => if (gI σ_1 0 0 1) = (8 : Int32) then (some ((-1 : Int32), σ_1)) else ((mX3_isGood a1 a2 a3 a4 a5).bind fun q_3 => if q_3 = (0 : Int32) then (some ((-1 : Int32), σ_1)) else (gd (inb (((7 : Int32) * (gI σ_1 0 0 1)) + (0 : Int32)) 56) (sv (sI σ_1 1 0 (Int32.toNatClampNeg (((7 : Int32) * (gI σ_1 0 0 1)) + (0 : Int32))) a1) fun σ_6 => gd (inb (((7 : Int32) * (gI σ_1 0 0 1)) + (1 : Int32)) 56) (sv (sI σ_6 1 0 (Int32.toNatClampNeg (((7 : Int32) * (gI σ_1 0 0 1)) + (1 : Int32))) a2) fun σ_8 => gd (inb (((7 : Int32) * (gI σ_1 0 0 1)) + (2 : Int32)) 56) (sv (sI σ_8 1 0 (Int32.toNatClampNeg (((7 : Int32) * (gI σ_1 0 0 1)) + (2 : Int32))) a3) fun σ_10 => gd (inb (((7 : Int32) * (gI σ_1 0 0 1)) + (3 : Int32)) 56) (sv (sI σ_10 1 0 (Int32.toNatClampNeg (((7 : Int32) * (gI σ_1 0 0 1)) + (3 : Int32))) a4) fun σ_12 => gd (inb (((7 : Int32) * (gI σ_1 0 0 1)) + (4 : Int32)) 56) (sv (sI σ_12 1 0 (Int32.toNatClampNeg (((7 : Int32) * (gI σ_1 0 0 1)) + (4 : Int32))) a5) fun σ_14 => gd (inb (((7 : Int32) * (gI σ_1 0 0 1)) + (5 : Int32)) 56) (sv (sI σ_14 1 0 (Int32.toNatClampNeg (((7 : Int32) * (gI σ_1 0 0 1)) + (5 : Int32))) (0 : Int32)) fun σ_16 => gd (inb (((7 : Int32) * (gI σ_1 0 0 1)) + (6 : Int32)) 56) (sv (sI σ_16 1 0 (Int32.toNatClampNeg (((7 : Int32) * (gI σ_1 0 0 1)) + (6 : Int32))) (0 : Int32)) fun σ_18 => sv (sI σ_18 0 0 1 ((gI σ_18 0 0 1) + (1 : Int32))) fun σ_19 => some (((gI σ_19 0 0 1) - (1 : Int32)), σ_19))))))))))
set_option maxHeartbeats 4000000 in
set_option maxRecDepth 100000 in
theorem ctX3_bond (l : Launch) (D : va_G) (cy : Nat → ClassId) (ad : Nat → Nat → Nat) (σ : ST) (a1 : Int32) (a2 : Int32) (a3 : Int32) (a4 : Int32) (a5 : Int32) (q : Int32 × ST) (hm : mX3_bond σ a1 a2 a3 a4 a5 = some q) : zMi l yX3_bond wsX3_bond rmX3_bond D cy [.ref (ad 0 0), .int a1, .int a2, .int a3, .int a4, .int a5] (mw cy ad σ) q.1 (mw cy ad q.2) := by
  intro sz
  refine Met.ofW (cc := cX3_bond) (maxL := 7) (ret := (some .int)) (by decide) rfl ?_
  intro p e s m args below meth c s₁ B hml hv
  obtain ⟨rfl, hsz, hP, hK, hD0⟩ := hv
  have hx := B.exec
  have hb := B.bytes
  have hr := B.returns
  have hts := atoms_spec (ws := wsX3_bond) B.pre
  have hown : s.vm.findClass RX3 = some m.cls := findClass_of_methodNamed B.named
  have hlocks := B.notSynchronized
  subst hsz
  have hD := hD0.self (sz := s.heap.size)
  generalize hAe : va_A (mw cy ad σ) s.heap.size = A at hD ⊢
  have hA : ∀ q : Nat, s.heap.size ≤ q → A q := fun q h => by rw [← hAe]; exact Or.inr h
  have hS : va_S A s.heap s.heap [] := va_S.rf
  have C : Cx p s m _ meth c cX3_bond 7 (some .int) RX3 wsX3_bond D cy A := ⟨hx, hb, hml, hown, hts, hr, hlocks, hK, hA⟩
  have hl := lv_entry ([.ref (ad 0 0), .int a1, .int a2, .int a3, .int a4, .int a5]) (n := 7) (Nat.le_of_ble_eq_true rfl)
  rw [lg_entry_eq]
  generalize (lg_sl ([.ref (ad 0 0), .int a1, .int a2, .int a3, .int a4, .int a5]) ++ List.replicate (7 - (lg_sl ([.ref (ad 0 0), .int a1, .int a2, .int a3, .int a4, .int a5])).length) Slot.unset).toArray = ls at hl ⊢
  have hl : lv_has ls 7 [(0, .ref (ad 0 0)), (1, .int a1), (2, .int a2), (3, .int a3), (4, .int a4), (5, .int a5)] := hl
  unfold mX3_bond at hm
  refine lv_aload_n hx hb dX3_bond_0 rfl (lv_at hl 0 rfl) ?_
  refine lv_iconst (v := 0) hx hb dX3_bond_1 (by decide) ?_
  refine va_put (D := D) (ci := 3) (v := .int (0 : Int32)) (ty := .int) (C := RX3) (T := TX3) (N := 20) hx hb hts iwX3_bond_X3 tyX3 tyX3_ok nmX3 hown hK.1 hP hD hS 0 mw_0 rfl 10 (by decide) (hts _ lkX3_bond_61) (fun _ h9 => h9) rfl (by decide +kernel) rfl rfl (Nat.le_of_ble_eq_true rfl) dX3_bond_2 (fun H locs hP hD hS => ?_)
  have hP := eP (mw_s0 (σ := σ) (j := 10) (v := (0 : Int32)) (by rfl)) hP
  have hD := eD (mw_s0 (σ := σ) (j := 10) (v := (0 : Int32)) (by rfl)) hD
  obtain ⟨σ_1, e_1, hm⟩ := sv_some hm
  have hP : va_P D vwCl (mw cy ad σ_1) H := by rw [e_1]; exact hP
  have hD : va_D A (mw cy ad σ_1) := by rw [e_1]; exact hD
  refine lv_aload_n hx hb dX3_bond_5 rfl (lv_at hl 0 rfl) ?_
  refine va_get (D := D) (ci := 3) (v := .int (gI σ_1 0 0 1)) (C := RX3) (T := TX3) (N := 20) hx hb hts iwX3_bond_X3 hown hK.1 hP 0 mw_0 rfl 1 (by decide) (hts _ lkX3_bond_64) (fun _ h9 => h9) rfl dX3_bond_6 ?_
  refine lv_bipush (v := 8) hx hb dX3_bond_9 (by decide) ?_
  refine lv_icmp_eq (tgt := 27) hx hb dX3_bond_11 (by decide) (fun c_2 => ?_) (fun c_2 => ?_)
  · have hm := ifp c_2 hm
    refine lv_iconst (v := -1) hx hb dX3_bond_27 (by decide) ?_
    exact z_i hx hb hr hlocks hm hP hD hS dX3_bond_28
  · have hm := ifn c_2 hm
    refine lv_iload_n hx hb dX3_bond_14 rfl (lv_at hl 1 rfl) ?_
    refine lv_iload_n hx hb dX3_bond_15 rfl (lv_at hl 2 rfl) ?_
    refine lv_iload_n hx hb dX3_bond_16 rfl (lv_at hl 3 rfl) ?_
    refine lv_iload hx hb dX3_bond_17 (lv_at hl 4 rfl) ?_
    refine lv_iload hx hb dX3_bond_19 (lv_at hl 5 rfl) ?_
    obtain ⟨q_3, hq_3, hm⟩ := ob hm
    refine zc_i (zr_S [.int a1, .int a2, .int a3, .int a4, .int a5] [] ⟨hx, hb, hml, hown, hts⟩ (ctX3_isGood l D cy (mw cy ad σ_1)  a1 a2 a3 a4 a5 q_3 hq_3 _) (va_cwS 5 hts gX3_bond_X3_isGood rfl rfl rfl (by decide +kernel) ⟨Nat.le_of_ble_eq_true rfl, Nat.le_of_ble_eq_true rfl⟩) hK hP hD rfl hl.1 rfl (Nat.le_of_ble_eq_true rfl) dX3_bond_21 ⟨Nat.zero_le _, Nat.zero_le _⟩) hD hS hA (fun H locs hP hD hS => ?_)
    refine lv_if_ne (tgt := 29) hx hb dX3_bond_24 (by decide) (fun c_4 => ?_) (fun c_4 => ?_)
    · have hm := ifn c_4 hm
      refine lv_bipush (v := 7) hx hb dX3_bond_29 (by decide) ?_
      refine lv_aload_n hx hb dX3_bond_31 rfl (lv_at hl 0 rfl) ?_
      refine va_get (D := D) (ci := 3) (v := .int (gI σ_1 0 0 1)) (C := RX3) (T := TX3) (N := 20) hx hb hts iwX3_bond_X3 hown hK.1 hP 0 mw_0 rfl 1 (by decide) (hts _ lkX3_bond_64) (fun _ h9 => h9) rfl dX3_bond_32 ?_
      refine lv_imul hx hb dX3_bond_35 ?_
      refine lv_istore (lv' := [(6, .int ((7 : Int32) * (gI σ_1 0 0 1))), (0, .ref (ad 0 0)), (1, .int a1), (2, .int a2), (3, .int a3), (4, .int a4), (5, .int a5)]) hx hb dX3_bond_36 hl (by decide) rfl (fun ls hl => ?_)
      refine lv_aload_n hx hb dX3_bond_38 rfl (lv_at hl 1 rfl) ?_
      refine va_get (D := D) (ci := 3) (v := .ref (ad 1 0)) (C := RX3) (T := TX3) (N := 20) hx hb hts iwX3_bond_X3 hown hK.1 hP 0 mw_0 rfl 0 (by decide) (hts _ lkX3_bond_7) (fun _ h9 => h9) rfl dX3_bond_39 ?_
      refine lv_iload hx hb dX3_bond_42 (lv_at hl 0 rfl) ?_
      refine lv_iconst (v := 0) hx hb dX3_bond_44 (by decide) ?_
      refine lv_iadd hx hb dX3_bond_45 ?_
      refine lv_iload_n hx hb dX3_bond_46 rfl (lv_at hl 2 rfl) ?_
      obtain ⟨h_5, hm⟩ := gd_some hm
      refine va_iast hx hb hK.1 hP hD hS 1 0 mw_1 rfl (inb_vp h_5) dX3_bond_47 (fun H locs hP hD hS => ?_)
      have hP := eP mw_s1 hP
      have hD := eD mw_s1 hD
      obtain ⟨σ_6, e_6, hm⟩ := sv_some hm
      have hP : va_P D vwCl (mw cy ad σ_6) H := by rw [e_6]; exact hP
      have hD : va_D A (mw cy ad σ_6) := by rw [e_6]; exact hD
      refine lv_aload_n hx hb dX3_bond_48 rfl (lv_at hl 1 rfl) ?_
      refine va_get (D := D) (ci := 3) (v := .ref (ad 1 0)) (C := RX3) (T := TX3) (N := 20) hx hb hts iwX3_bond_X3 hown hK.1 hP 0 mw_0 rfl 0 (by decide) (hts _ lkX3_bond_7) (fun _ h9 => h9) rfl dX3_bond_49 ?_
      refine lv_iload hx hb dX3_bond_52 (lv_at hl 0 rfl) ?_
      refine lv_iconst (v := 1) hx hb dX3_bond_54 (by decide) ?_
      refine lv_iadd hx hb dX3_bond_55 ?_
      refine lv_iload_n hx hb dX3_bond_56 rfl (lv_at hl 3 rfl) ?_
      obtain ⟨h_7, hm⟩ := gd_some hm
      refine va_iast hx hb hK.1 hP hD hS 1 0 mw_1 rfl (inb_vp h_7) dX3_bond_57 (fun H locs hP hD hS => ?_)
      have hP := eP mw_s1 hP
      have hD := eD mw_s1 hD
      obtain ⟨σ_8, e_8, hm⟩ := sv_some hm
      have hP : va_P D vwCl (mw cy ad σ_8) H := by rw [e_8]; exact hP
      have hD : va_D A (mw cy ad σ_8) := by rw [e_8]; exact hD
      refine lv_aload_n hx hb dX3_bond_58 rfl (lv_at hl 1 rfl) ?_
      refine va_get (D := D) (ci := 3) (v := .ref (ad 1 0)) (C := RX3) (T := TX3) (N := 20) hx hb hts iwX3_bond_X3 hown hK.1 hP 0 mw_0 rfl 0 (by decide) (hts _ lkX3_bond_7) (fun _ h9 => h9) rfl dX3_bond_59 ?_
      refine lv_iload hx hb dX3_bond_62 (lv_at hl 0 rfl) ?_
      refine lv_iconst (v := 2) hx hb dX3_bond_64 (by decide) ?_
      refine lv_iadd hx hb dX3_bond_65 ?_
      refine lv_iload_n hx hb dX3_bond_66 rfl (lv_at hl 4 rfl) ?_
      obtain ⟨h_9, hm⟩ := gd_some hm
      refine va_iast hx hb hK.1 hP hD hS 1 0 mw_1 rfl (inb_vp h_9) dX3_bond_67 (fun H locs hP hD hS => ?_)
      have hP := eP mw_s1 hP
      have hD := eD mw_s1 hD
      obtain ⟨σ_10, e_10, hm⟩ := sv_some hm
      have hP : va_P D vwCl (mw cy ad σ_10) H := by rw [e_10]; exact hP
      have hD : va_D A (mw cy ad σ_10) := by rw [e_10]; exact hD
      refine lv_aload_n hx hb dX3_bond_68 rfl (lv_at hl 1 rfl) ?_
      refine va_get (D := D) (ci := 3) (v := .ref (ad 1 0)) (C := RX3) (T := TX3) (N := 20) hx hb hts iwX3_bond_X3 hown hK.1 hP 0 mw_0 rfl 0 (by decide) (hts _ lkX3_bond_7) (fun _ h9 => h9) rfl dX3_bond_69 ?_
      refine lv_iload hx hb dX3_bond_72 (lv_at hl 0 rfl) ?_
      refine lv_iconst (v := 3) hx hb dX3_bond_74 (by decide) ?_
      refine lv_iadd hx hb dX3_bond_75 ?_
      refine lv_iload hx hb dX3_bond_76 (lv_at hl 5 rfl) ?_
      obtain ⟨h_11, hm⟩ := gd_some hm
      refine va_iast hx hb hK.1 hP hD hS 1 0 mw_1 rfl (inb_vp h_11) dX3_bond_78 (fun H locs hP hD hS => ?_)
      have hP := eP mw_s1 hP
      have hD := eD mw_s1 hD
      obtain ⟨σ_12, e_12, hm⟩ := sv_some hm
      have hP : va_P D vwCl (mw cy ad σ_12) H := by rw [e_12]; exact hP
      have hD : va_D A (mw cy ad σ_12) := by rw [e_12]; exact hD
      refine lv_aload_n hx hb dX3_bond_79 rfl (lv_at hl 1 rfl) ?_
      refine va_get (D := D) (ci := 3) (v := .ref (ad 1 0)) (C := RX3) (T := TX3) (N := 20) hx hb hts iwX3_bond_X3 hown hK.1 hP 0 mw_0 rfl 0 (by decide) (hts _ lkX3_bond_7) (fun _ h9 => h9) rfl dX3_bond_80 ?_
      refine lv_iload hx hb dX3_bond_83 (lv_at hl 0 rfl) ?_
      refine lv_iconst (v := 4) hx hb dX3_bond_85 (by decide) ?_
      refine lv_iadd hx hb dX3_bond_86 ?_
      refine lv_iload hx hb dX3_bond_87 (lv_at hl 6 rfl) ?_
      obtain ⟨h_13, hm⟩ := gd_some hm
      refine va_iast hx hb hK.1 hP hD hS 1 0 mw_1 rfl (inb_vp h_13) dX3_bond_89 (fun H locs hP hD hS => ?_)
      have hP := eP mw_s1 hP
      have hD := eD mw_s1 hD
      obtain ⟨σ_14, e_14, hm⟩ := sv_some hm
      have hP : va_P D vwCl (mw cy ad σ_14) H := by rw [e_14]; exact hP
      have hD : va_D A (mw cy ad σ_14) := by rw [e_14]; exact hD
      refine lv_aload_n hx hb dX3_bond_90 rfl (lv_at hl 1 rfl) ?_
      refine va_get (D := D) (ci := 3) (v := .ref (ad 1 0)) (C := RX3) (T := TX3) (N := 20) hx hb hts iwX3_bond_X3 hown hK.1 hP 0 mw_0 rfl 0 (by decide) (hts _ lkX3_bond_7) (fun _ h9 => h9) rfl dX3_bond_91 ?_
      refine lv_iload hx hb dX3_bond_94 (lv_at hl 0 rfl) ?_
      refine lv_iconst (v := 5) hx hb dX3_bond_96 (by decide) ?_
      refine lv_iadd hx hb dX3_bond_97 ?_
      refine lv_iconst (v := 0) hx hb dX3_bond_98 (by decide) ?_
      obtain ⟨h_15, hm⟩ := gd_some hm
      refine va_iast hx hb hK.1 hP hD hS 1 0 mw_1 rfl (inb_vp h_15) dX3_bond_99 (fun H locs hP hD hS => ?_)
      have hP := eP mw_s1 hP
      have hD := eD mw_s1 hD
      obtain ⟨σ_16, e_16, hm⟩ := sv_some hm
      have hP : va_P D vwCl (mw cy ad σ_16) H := by rw [e_16]; exact hP
      have hD : va_D A (mw cy ad σ_16) := by rw [e_16]; exact hD
      refine lv_aload_n hx hb dX3_bond_100 rfl (lv_at hl 1 rfl) ?_
      refine va_get (D := D) (ci := 3) (v := .ref (ad 1 0)) (C := RX3) (T := TX3) (N := 20) hx hb hts iwX3_bond_X3 hown hK.1 hP 0 mw_0 rfl 0 (by decide) (hts _ lkX3_bond_7) (fun _ h9 => h9) rfl dX3_bond_101 ?_
      refine lv_iload hx hb dX3_bond_104 (lv_at hl 0 rfl) ?_
      refine lv_bipush (v := 6) hx hb dX3_bond_106 (by decide) ?_
      refine lv_iadd hx hb dX3_bond_108 ?_
      refine lv_iconst (v := 0) hx hb dX3_bond_109 (by decide) ?_
      obtain ⟨h_17, hm⟩ := gd_some hm
      refine va_iast hx hb hK.1 hP hD hS 1 0 mw_1 rfl (inb_vp h_17) dX3_bond_110 (fun H locs hP hD hS => ?_)
      have hP := eP mw_s1 hP
      have hD := eD mw_s1 hD
      obtain ⟨σ_18, e_18, hm⟩ := sv_some hm
      have hP : va_P D vwCl (mw cy ad σ_18) H := by rw [e_18]; exact hP
      have hD : va_D A (mw cy ad σ_18) := by rw [e_18]; exact hD
      refine lv_aload_n hx hb dX3_bond_111 rfl (lv_at hl 1 rfl) ?_
      refine lv_dup hx hb dX3_bond_112 rfl ?_
      refine va_get (D := D) (ci := 3) (v := .int (gI σ_18 0 0 1)) (C := RX3) (T := TX3) (N := 20) hx hb hts iwX3_bond_X3 hown hK.1 hP 0 mw_0 rfl 1 (by decide) (hts _ lkX3_bond_64) (fun _ h9 => h9) rfl dX3_bond_113 ?_
      refine lv_iconst (v := 1) hx hb dX3_bond_116 (by decide) ?_
      refine lv_iadd hx hb dX3_bond_117 ?_
      refine va_put (D := D) (ci := 3) (v := .int ((gI σ_18 0 0 1) + (1 : Int32))) (ty := .int) (C := RX3) (T := TX3) (N := 20) hx hb hts iwX3_bond_X3 tyX3 tyX3_ok nmX3 hown hK.1 hP hD hS 0 mw_0 rfl 1 (by decide) (hts _ lkX3_bond_64) (fun _ h9 => h9) rfl (by decide +kernel) rfl rfl (Nat.le_of_ble_eq_true rfl) dX3_bond_118 (fun H locs hP hD hS => ?_)
      have hP := eP (mw_s0 (σ := σ_18) (j := 1) (v := ((gI σ_18 0 0 1) + (1 : Int32))) (by rfl)) hP
      have hD := eD (mw_s0 (σ := σ_18) (j := 1) (v := ((gI σ_18 0 0 1) + (1 : Int32))) (by rfl)) hD
      obtain ⟨σ_19, e_19, hm⟩ := sv_some hm
      have hP : va_P D vwCl (mw cy ad σ_19) H := by rw [e_19]; exact hP
      have hD : va_D A (mw cy ad σ_19) := by rw [e_19]; exact hD
      refine lv_aload_n hx hb dX3_bond_121 rfl (lv_at hl 1 rfl) ?_
      refine va_get (D := D) (ci := 3) (v := .int (gI σ_19 0 0 1)) (C := RX3) (T := TX3) (N := 20) hx hb hts iwX3_bond_X3 hown hK.1 hP 0 mw_0 rfl 1 (by decide) (hts _ lkX3_bond_64) (fun _ h9 => h9) rfl dX3_bond_122 ?_
      refine lv_iconst (v := 1) hx hb dX3_bond_125 (by decide) ?_
      refine lv_isub hx hb dX3_bond_126 ?_
      exact z_i hx hb hr hlocks hm hP hD hS dX3_bond_127
    · have hm := ifp c_4 hm
      refine lv_iconst (v := -1) hx hb dX3_bond_27 (by decide) ?_
      exact z_i hx hb hr hlocks hm hP hD hS dX3_bond_28
abbrev rmX3_drop : Room := { frames := 2, cells := 0, slots := 0, locals := 46 }
theorem lkX3_drop_64 : Cond.fieldLink RX3 64 "DeliveryBasketModel" "many" "I" ∈ wsX3_drop := by decide +kernel
theorem iwX3_drop_X3 : ∀ w ∈ wsX30, w ∈ wsX3_drop := fun _ h => List.mem_cons_of_mem _ (List.mem_append_right _ h)
theorem lkX3_drop_7 : Cond.fieldLink RX3 7 "DeliveryBasketModel" "bond" "[I" ∈ wsX3_drop := by decide +kernel
theorem lkX3_drop_61 : Cond.fieldLink RX3 61 "DeliveryBasketModel" "thrown" "I" ∈ wsX3_drop := by decide +kernel
def bkX3_drop_30  (rec : ST × Int32 → Option (Int32 × ST)) (σ : ST) (x2 : Int32) : Option (Int32 × ST) := if ((7 : Int32) * (gI σ 0 0 1)) ≤ x2 then (some ((gI σ 0 0 1), σ)) else (gd (inb (x2 + (7 : Int32)) 56) (gd (inb x2 56) (sv (sI σ 1 0 (Int32.toNatClampNeg x2) (gI σ 1 0 (Int32.toNatClampNeg (x2 + (7 : Int32))))) fun σ_4 => rec (σ_4, (x2 + (1 : Int32))))))
def kX3_drop_30  (n : Nat) (a : ST × Int32) : Option (Int32 × ST) := fx (fun rec a => bkX3_drop_30  rec a.1 a.2) n a
set_option maxHeartbeats 4000000 in
set_option maxRecDepth 100000 in
theorem kX3_drop_30_ok {p : Program} {l : Launch} {e : Env} {s : State} {m : MethodId} {args : Array Value} {below : List Frame} {meth : Method} {c : Code} {D : va_G} {cy : Nat → ClassId} {ad : Nat → Nat → Nat} {A : Nat → Prop} (C : Cx p s m args meth c cX3_drop 3 (some .int) RX3 wsX3_drop D cy A) (q : Int32 × ST) : ∀ (n : Nat) (σ : ST) (x2 : Int32), ∀ (H : Heap) (locs : List Loc), va_P D vwCl (mw cy ad σ) H → va_D A (mw cy ad σ) → va_S A s.heap H locs → ∀ ls : Array Slot, lv_has ls 3 [(0, .ref (ad 0 0)), (2, .int x2)] → kX3_drop_30 n (σ, x2) = some q → W p l e rmX3_drop s m args below meth c H locs 0 0 (MQ below (zQi D (mw cy ad q.2) A q.1) args s 0 0 A) (F0 m 30 ls []) := by
  obtain ⟨hx, hb, hml, hown, hts, hr, hlocks, hK, hA⟩ := id C
  intro n
  induction n with
  | zero => intro σ x2 H locs hP hD hS ls hl hm; cases hm
  | succ n ih =>
    intro σ x2 H locs hP hD hS ls hl hm
    have hm : bkX3_drop_30  (kX3_drop_30 n) σ x2 = some q := hm
    unfold bkX3_drop_30 at hm
    refine lv_iload_n hx hb dX3_drop_30 rfl (lv_at hl 1 rfl) ?_
    refine lv_bipush (v := 7) hx hb dX3_drop_31 (by decide) ?_
    refine lv_aload_n hx hb dX3_drop_33 rfl (lv_at hl 0 rfl) ?_
    refine va_get (D := D) (ci := 3) (v := .int (gI σ 0 0 1)) (C := RX3) (T := TX3) (N := 20) hx hb hts iwX3_drop_X3 hown hK.1 hP 0 mw_0 rfl 1 (by decide) (hts _ lkX3_drop_64) (fun _ h9 => h9) rfl dX3_drop_34 ?_
    refine lv_imul hx hb dX3_drop_37 ?_
    refine lv_icmp_ge (tgt := 62) hx hb dX3_drop_38 (by decide) (fun c_1 => ?_) (fun c_1 => ?_)
    · have hm := ifp c_1 hm
      refine lv_aload_n hx hb dX3_drop_62 rfl (lv_at hl 0 rfl) ?_
      refine va_get (D := D) (ci := 3) (v := .int (gI σ 0 0 1)) (C := RX3) (T := TX3) (N := 20) hx hb hts iwX3_drop_X3 hown hK.1 hP 0 mw_0 rfl 1 (by decide) (hts _ lkX3_drop_64) (fun _ h9 => h9) rfl dX3_drop_63 ?_
      exact z_i hx hb hr hlocks hm hP hD hS dX3_drop_66
    · have hm := ifn c_1 hm
      refine lv_aload_n hx hb dX3_drop_41 rfl (lv_at hl 0 rfl) ?_
      refine va_get (D := D) (ci := 3) (v := .ref (ad 1 0)) (C := RX3) (T := TX3) (N := 20) hx hb hts iwX3_drop_X3 hown hK.1 hP 0 mw_0 rfl 0 (by decide) (hts _ lkX3_drop_7) (fun _ h9 => h9) rfl dX3_drop_42 ?_
      refine lv_iload_n hx hb dX3_drop_45 rfl (lv_at hl 1 rfl) ?_
      refine lv_aload_n hx hb dX3_drop_46 rfl (lv_at hl 0 rfl) ?_
      refine va_get (D := D) (ci := 3) (v := .ref (ad 1 0)) (C := RX3) (T := TX3) (N := 20) hx hb hts iwX3_drop_X3 hown hK.1 hP 0 mw_0 rfl 0 (by decide) (hts _ lkX3_drop_7) (fun _ h9 => h9) rfl dX3_drop_47 ?_
      refine lv_iload_n hx hb dX3_drop_50 rfl (lv_at hl 1 rfl) ?_
      refine lv_bipush (v := 7) hx hb dX3_drop_51 (by decide) ?_
      refine lv_iadd hx hb dX3_drop_53 ?_
      obtain ⟨h_2, hm⟩ := gd_some hm
      refine va_iald hx hb hK.1 hP 1 0 mw_1 rfl (inb_vp h_2) dX3_drop_54 ?_
      obtain ⟨h_3, hm⟩ := gd_some hm
      refine va_iast hx hb hK.1 hP hD hS 1 0 mw_1 rfl (inb_vp h_3) dX3_drop_55 (fun H locs hP hD hS => ?_)
      have hP := eP mw_s1 hP
      have hD := eD mw_s1 hD
      obtain ⟨σ_4, e_4, hm⟩ := sv_some hm
      have hP : va_P D vwCl (mw cy ad σ_4) H := by rw [e_4]; exact hP
      have hD : va_D A (mw cy ad σ_4) := by rw [e_4]; exact hD
      refine lv_iinc (v := (x2 + (1 : Int32))) (lv' := [(2, .int (x2 + (1 : Int32))), (0, .ref (ad 0 0))]) hx hb dX3_drop_56 hl (k := 1) rfl rfl (by decide) rfl (fun ls hl => ?_)
      refine lv_goto (tgt := 30) hx hb dX3_drop_59 (by decide) ?_
      exact ih σ_4 (x2 + (1 : Int32)) _ _ hP hD hS _ (lv_sub hl [1, 0] rfl) hm
def mX3_drop (σ : ST) (a1 : Int32) : Option (Int32 × ST) := sv (sI σ 0 0 10 (0 : Int32)) fun σ_5 => (mX3_isBond σ_5 a1).bind fun q_6 => if q_6 = (0 : Int32) then (some ((-1 : Int32), σ_5)) else (sv (sI σ_5 0 0 1 ((gI σ_5 0 0 1) - (1 : Int32))) fun σ_8 => kX3_drop_30 FU (σ_8, ((7 : Int32) * a1)))
set_option maxHeartbeats 4000000 in
set_option maxRecDepth 100000 in
theorem ctX3_drop (l : Launch) (D : va_G) (cy : Nat → ClassId) (ad : Nat → Nat → Nat) (σ : ST) (a1 : Int32) (q : Int32 × ST) (hm : mX3_drop σ a1 = some q) : zMi l yX3_drop wsX3_drop rmX3_drop D cy [.ref (ad 0 0), .int a1] (mw cy ad σ) q.1 (mw cy ad q.2) := by
  intro sz
  refine Met.ofW (cc := cX3_drop) (maxL := 3) (ret := (some .int)) (by decide) rfl ?_
  intro p e s m args below meth c s₁ B hml hv
  obtain ⟨rfl, hsz, hP, hK, hD0⟩ := hv
  have hx := B.exec
  have hb := B.bytes
  have hr := B.returns
  have hts := atoms_spec (ws := wsX3_drop) B.pre
  have hown : s.vm.findClass RX3 = some m.cls := findClass_of_methodNamed B.named
  have hlocks := B.notSynchronized
  subst hsz
  have hD := hD0.self (sz := s.heap.size)
  generalize hAe : va_A (mw cy ad σ) s.heap.size = A at hD ⊢
  have hA : ∀ q : Nat, s.heap.size ≤ q → A q := fun q h => by rw [← hAe]; exact Or.inr h
  have hS : va_S A s.heap s.heap [] := va_S.rf
  have C : Cx p s m _ meth c cX3_drop 3 (some .int) RX3 wsX3_drop D cy A := ⟨hx, hb, hml, hown, hts, hr, hlocks, hK, hA⟩
  have hl := lv_entry ([.ref (ad 0 0), .int a1]) (n := 3) (Nat.le_of_ble_eq_true rfl)
  rw [lg_entry_eq]
  generalize (lg_sl ([.ref (ad 0 0), .int a1]) ++ List.replicate (3 - (lg_sl ([.ref (ad 0 0), .int a1])).length) Slot.unset).toArray = ls at hl ⊢
  have hl : lv_has ls 3 [(0, .ref (ad 0 0)), (1, .int a1)] := hl
  unfold mX3_drop at hm
  refine lv_aload_n hx hb dX3_drop_0 rfl (lv_at hl 0 rfl) ?_
  refine lv_iconst (v := 0) hx hb dX3_drop_1 (by decide) ?_
  refine va_put (D := D) (ci := 3) (v := .int (0 : Int32)) (ty := .int) (C := RX3) (T := TX3) (N := 20) hx hb hts iwX3_drop_X3 tyX3 tyX3_ok nmX3 hown hK.1 hP hD hS 0 mw_0 rfl 10 (by decide) (hts _ lkX3_drop_61) (fun _ h9 => h9) rfl (by decide +kernel) rfl rfl (Nat.le_of_ble_eq_true rfl) dX3_drop_2 (fun H locs hP hD hS => ?_)
  have hP := eP (mw_s0 (σ := σ) (j := 10) (v := (0 : Int32)) (by rfl)) hP
  have hD := eD (mw_s0 (σ := σ) (j := 10) (v := (0 : Int32)) (by rfl)) hD
  obtain ⟨σ_5, e_5, hm⟩ := sv_some hm
  have hP : va_P D vwCl (mw cy ad σ_5) H := by rw [e_5]; exact hP
  have hD : va_D A (mw cy ad σ_5) := by rw [e_5]; exact hD
  refine lv_aload_n hx hb dX3_drop_5 rfl (lv_at hl 0 rfl) ?_
  refine lv_iload_n hx hb dX3_drop_6 rfl (lv_at hl 1 rfl) ?_
  obtain ⟨q_6, hq_6, hm⟩ := ob hm
  refine zc_i (zr_V [.int a1] [] ⟨hx, hb, hml, hown, hts⟩ (ctX3_isBond l D cy ad σ_5  a1 q_6 hq_6 _) (cwV 1 hts gX3_drop_X3_isBond rfl rfl rfl (by decide +kernel) ⟨Nat.le_of_ble_eq_true rfl, Nat.le_of_ble_eq_true rfl⟩) hK hP hD 0 mw_0 rfl rfl rfl hl.1 rfl (Nat.le_of_ble_eq_true rfl) dX3_drop_7 ⟨Nat.zero_le _, Nat.zero_le _⟩) hD hS hA (fun H locs hP hD hS => ?_)
  refine lv_if_ne (tgt := 15) hx hb dX3_drop_10 (by decide) (fun c_7 => ?_) (fun c_7 => ?_)
  · have hm := ifn c_7 hm
    refine lv_aload_n hx hb dX3_drop_15 rfl (lv_at hl 0 rfl) ?_
    refine lv_dup hx hb dX3_drop_16 rfl ?_
    refine va_get (D := D) (ci := 3) (v := .int (gI σ_5 0 0 1)) (C := RX3) (T := TX3) (N := 20) hx hb hts iwX3_drop_X3 hown hK.1 hP 0 mw_0 rfl 1 (by decide) (hts _ lkX3_drop_64) (fun _ h9 => h9) rfl dX3_drop_17 ?_
    refine lv_iconst (v := 1) hx hb dX3_drop_20 (by decide) ?_
    refine lv_isub hx hb dX3_drop_21 ?_
    refine va_put (D := D) (ci := 3) (v := .int ((gI σ_5 0 0 1) - (1 : Int32))) (ty := .int) (C := RX3) (T := TX3) (N := 20) hx hb hts iwX3_drop_X3 tyX3 tyX3_ok nmX3 hown hK.1 hP hD hS 0 mw_0 rfl 1 (by decide) (hts _ lkX3_drop_64) (fun _ h9 => h9) rfl (by decide +kernel) rfl rfl (Nat.le_of_ble_eq_true rfl) dX3_drop_22 (fun H locs hP hD hS => ?_)
    have hP := eP (mw_s0 (σ := σ_5) (j := 1) (v := ((gI σ_5 0 0 1) - (1 : Int32))) (by rfl)) hP
    have hD := eD (mw_s0 (σ := σ_5) (j := 1) (v := ((gI σ_5 0 0 1) - (1 : Int32))) (by rfl)) hD
    obtain ⟨σ_8, e_8, hm⟩ := sv_some hm
    have hP : va_P D vwCl (mw cy ad σ_8) H := by rw [e_8]; exact hP
    have hD : va_D A (mw cy ad σ_8) := by rw [e_8]; exact hD
    refine lv_bipush (v := 7) hx hb dX3_drop_25 (by decide) ?_
    refine lv_iload_n hx hb dX3_drop_27 rfl (lv_at hl 1 rfl) ?_
    refine lv_imul hx hb dX3_drop_28 ?_
    refine lv_istore_n (lv' := [(2, .int ((7 : Int32) * a1)), (0, .ref (ad 0 0)), (1, .int a1)]) hx hb dX3_drop_29 rfl hl (by decide) rfl (fun ls hl => ?_)
    exact kX3_drop_30_ok C q FU σ_8 ((7 : Int32) * a1) _ _ hP hD hS _ (lv_sub hl [1, 0] rfl) hm
  · have hm := ifp c_7 hm
    refine lv_iconst (v := -1) hx hb dX3_drop_13 (by decide) ?_
    exact z_i hx hb hr hlocks hm hP hD hS dX3_drop_14
abbrev rmX3_alter : Room := { frames := 2, cells := 0, slots := 0, locals := 46 }
theorem lkX3_alter_7 : Cond.fieldLink RX3 7 "DeliveryBasketModel" "bond" "[I" ∈ wsX3_alter := by decide +kernel
theorem iwX3_alter_X3 : ∀ w ∈ wsX30, w ∈ wsX3_alter := fun _ h => List.mem_cons_of_mem _ (List.mem_append_right _ h)
theorem lkX3_alter_61 : Cond.fieldLink RX3 61 "DeliveryBasketModel" "thrown" "I" ∈ wsX3_alter := by decide +kernel
theorem lkX3_alter_91 : Cond.constantLong RX3 91 (2) ∈ wsX3_alter := by decide +kernel
theorem lkX3_alter_93 : Cond.constantLong RX3 93 (99) ∈ wsX3_alter := by decide +kernel
theorem lkX3_alter_77 : Cond.constantLong RX3 77 (-200) ∈ wsX3_alter := by decide +kernel
theorem lkX3_alter_79 : Cond.constantLong RX3 79 (200) ∈ wsX3_alter := by decide +kernel
def bkX3_alter_69  (σ : ST) (x1 : Int32) (x2 : Int32) (x3 : Int32) (y0 : Int32) : Option (Int32 × ST) := if y0 = (0 : Int32) then (some ((0 : Int32), σ)) else ((mX3_of1 σ x1 ((4 : Int32) + x2)).bind fun q_2 => if q_2 = x3 then (some ((0 : Int32), σ)) else (gd (inb ((((7 : Int32) * x1) + (4 : Int32)) + x2) 56) (sv (sI σ 1 0 (Int32.toNatClampNeg ((((7 : Int32) * x1) + (4 : Int32)) + x2)) x3) fun σ_5 => some ((1 : Int32), σ_5))))
def kX3_alter_69  (a : ST × Int32 × Int32 × Int32 × Int32) : Option (Int32 × ST) := bkX3_alter_69  a.1 a.2.1 a.2.2.1 a.2.2.2.1 a.2.2.2.2
set_option maxHeartbeats 4000000 in
set_option maxRecDepth 100000 in
theorem kX3_alter_69_ok {p : Program} {l : Launch} {e : Env} {s : State} {m : MethodId} {args : Array Value} {below : List Frame} {meth : Method} {c : Code} {D : va_G} {cy : Nat → ClassId} {ad : Nat → Nat → Nat} {A : Nat → Prop} (C : Cx p s m args meth c cX3_alter 5 (some .boolean) RX3 wsX3_alter D cy A) (q : Int32 × ST) : ∀ (σ : ST) (x1 : Int32) (x2 : Int32) (x3 : Int32) (y0 : Int32), ∀ (H : Heap) (locs : List Loc), va_P D vwCl (mw cy ad σ) H → va_D A (mw cy ad σ) → va_S A s.heap H locs → ∀ ls : Array Slot, lv_has ls 5 [(0, .ref (ad 0 0)), (1, .int x1), (2, .int x2), (3, .int x3)] → kX3_alter_69 (σ, x1, x2, x3, y0) = some q → W p l e rmX3_alter s m args below meth c H locs 0 0 (MQ below (zQi D (mw cy ad q.2) A q.1) args s 0 0 A) (F0 m 69 ls [.int y0]) := by
  obtain ⟨hx, hb, hml, hown, hts, hr, hlocks, hK, hA⟩ := id C
  intro σ x1 x2 x3 y0 H locs hP hD hS ls hl hm
  have hm : bkX3_alter_69  σ x1 x2 x3 y0 = some q := hm
  unfold bkX3_alter_69 at hm
  refine lv_istore (lv' := [(4, .int y0), (0, .ref (ad 0 0)), (1, .int x1), (2, .int x2), (3, .int x3)]) hx hb dX3_alter_69 hl (by decide) rfl (fun ls hl => ?_)
  refine lv_iload hx hb dX3_alter_71 (lv_at hl 0 rfl) ?_
  refine lv_if_eq (tgt := 88) hx hb dX3_alter_73 (by decide) (fun c_1 => ?_) (fun c_1 => ?_)
  · have hm := ifp c_1 hm
    refine lv_iconst (v := 0) hx hb dX3_alter_88 (by decide) ?_
    exact z_z hx hb hr hlocks (by decide) hm hP hD hS dX3_alter_89
  · have hm := ifn c_1 hm
    refine lv_aload_n hx hb dX3_alter_76 rfl (lv_at hl 1 rfl) ?_
    refine lv_iload_n hx hb dX3_alter_77 rfl (lv_at hl 2 rfl) ?_
    refine lv_iconst (v := 4) hx hb dX3_alter_78 (by decide) ?_
    refine lv_iload_n hx hb dX3_alter_79 rfl (lv_at hl 3 rfl) ?_
    refine lv_iadd hx hb dX3_alter_80 ?_
    obtain ⟨q_2, hq_2, hm⟩ := ob hm
    refine zc_i (zr_V [.int x1, .int ((4 : Int32) + x2)] [] ⟨hx, hb, hml, hown, hts⟩ (ctX3_of1 l D cy ad σ  x1 ((4 : Int32) + x2) q_2 hq_2 _) (cwV 2 hts gX3_alter_X3_of1 rfl rfl rfl (by decide +kernel) ⟨Nat.le_of_ble_eq_true rfl, Nat.le_of_ble_eq_true rfl⟩) hK hP hD 0 mw_0 rfl rfl rfl hl.1 rfl (Nat.le_of_ble_eq_true rfl) dX3_alter_81 ⟨Nat.zero_le _, Nat.zero_le _⟩) hD hS hA (fun H locs hP hD hS => ?_)
    refine lv_iload_n hx hb dX3_alter_84 rfl (lv_at hl 4 rfl) ?_
    refine lv_icmp_ne (tgt := 90) hx hb dX3_alter_85 (by decide) (fun c_3 => ?_) (fun c_3 => ?_)
    · have hm := ifn c_3 hm
      refine lv_aload_n hx hb dX3_alter_90 rfl (lv_at hl 1 rfl) ?_
      refine va_get (D := D) (ci := 3) (v := .ref (ad 1 0)) (C := RX3) (T := TX3) (N := 20) hx hb hts iwX3_alter_X3 hown hK.1 hP 0 mw_0 rfl 0 (by decide) (hts _ lkX3_alter_7) (fun _ h9 => h9) rfl dX3_alter_91 ?_
      refine lv_bipush (v := 7) hx hb dX3_alter_94 (by decide) ?_
      refine lv_iload_n hx hb dX3_alter_96 rfl (lv_at hl 2 rfl) ?_
      refine lv_imul hx hb dX3_alter_97 ?_
      refine lv_iconst (v := 4) hx hb dX3_alter_98 (by decide) ?_
      refine lv_iadd hx hb dX3_alter_99 ?_
      refine lv_iload_n hx hb dX3_alter_100 rfl (lv_at hl 3 rfl) ?_
      refine lv_iadd hx hb dX3_alter_101 ?_
      refine lv_iload_n hx hb dX3_alter_102 rfl (lv_at hl 4 rfl) ?_
      obtain ⟨h_4, hm⟩ := gd_some hm
      refine va_iast hx hb hK.1 hP hD hS 1 0 mw_1 rfl (inb_vp h_4) dX3_alter_103 (fun H locs hP hD hS => ?_)
      have hP := eP mw_s1 hP
      have hD := eD mw_s1 hD
      obtain ⟨σ_5, e_5, hm⟩ := sv_some hm
      have hP : va_P D vwCl (mw cy ad σ_5) H := by rw [e_5]; exact hP
      have hD : va_D A (mw cy ad σ_5) := by rw [e_5]; exact hD
      refine lv_iconst (v := 1) hx hb dX3_alter_104 (by decide) ?_
      exact z_z hx hb hr hlocks (by decide) hm hP hD hS dX3_alter_105
    · have hm := ifp c_3 hm
      refine lv_iconst (v := 0) hx hb dX3_alter_88 (by decide) ?_
      exact z_z hx hb hr hlocks (by decide) hm hP hD hS dX3_alter_89
def mX3_alter (σ : ST) (a1 : Int32) (a2 : Int32) (a3 : Int32) : Option (Int32 × ST) := sv (sI σ 0 0 10 (0 : Int32)) fun σ_6 => (mX3_isBond σ_6 a1).bind fun q_7 => if q_7 = (0 : Int32) then (some ((0 : Int32), σ_6)) else ((mX3_isIn (Int32.toInt64 a2) (0 : Int64) (2 : Int64)).bind fun q_9 => if q_9 = (0 : Int32) then (some ((0 : Int32), σ_6)) else (if a2 = (0 : Int32) then ((mX3_isIn (Int32.toInt64 a3) (-200 : Int64) (200 : Int64)).bind fun q_15 => kX3_alter_69 (σ_6, a1, a2, a3, q_15)) else (if a2 = (1 : Int32) then ((mX3_isIn (Int32.toInt64 a3) (0 : Int64) (99 : Int64)).bind fun q_14 => kX3_alter_69 (σ_6, a1, a2, a3, q_14)) else ((mX3_isIn (Int32.toInt64 a3) (0 : Int64) (1 : Int64)).bind fun q_13 => kX3_alter_69 (σ_6, a1, a2, a3, q_13)))))
set_option maxHeartbeats 4000000 in
set_option maxRecDepth 100000 in
theorem ctX3_alter (l : Launch) (D : va_G) (cy : Nat → ClassId) (ad : Nat → Nat → Nat) (σ : ST) (a1 : Int32) (a2 : Int32) (a3 : Int32) (q : Int32 × ST) (hm : mX3_alter σ a1 a2 a3 = some q) : zMi l yX3_alter wsX3_alter rmX3_alter D cy [.ref (ad 0 0), .int a1, .int a2, .int a3] (mw cy ad σ) q.1 (mw cy ad q.2) := by
  intro sz
  refine Met.ofW (cc := cX3_alter) (maxL := 5) (ret := (some .boolean)) (by decide) rfl ?_
  intro p e s m args below meth c s₁ B hml hv
  obtain ⟨rfl, hsz, hP, hK, hD0⟩ := hv
  have hx := B.exec
  have hb := B.bytes
  have hr := B.returns
  have hts := atoms_spec (ws := wsX3_alter) B.pre
  have hown : s.vm.findClass RX3 = some m.cls := findClass_of_methodNamed B.named
  have hlocks := B.notSynchronized
  subst hsz
  have hD := hD0.self (sz := s.heap.size)
  generalize hAe : va_A (mw cy ad σ) s.heap.size = A at hD ⊢
  have hA : ∀ q : Nat, s.heap.size ≤ q → A q := fun q h => by rw [← hAe]; exact Or.inr h
  have hS : va_S A s.heap s.heap [] := va_S.rf
  have C : Cx p s m _ meth c cX3_alter 5 (some .boolean) RX3 wsX3_alter D cy A := ⟨hx, hb, hml, hown, hts, hr, hlocks, hK, hA⟩
  have hl := lv_entry ([.ref (ad 0 0), .int a1, .int a2, .int a3]) (n := 5) (Nat.le_of_ble_eq_true rfl)
  rw [lg_entry_eq]
  generalize (lg_sl ([.ref (ad 0 0), .int a1, .int a2, .int a3]) ++ List.replicate (5 - (lg_sl ([.ref (ad 0 0), .int a1, .int a2, .int a3])).length) Slot.unset).toArray = ls at hl ⊢
  have hl : lv_has ls 5 [(0, .ref (ad 0 0)), (1, .int a1), (2, .int a2), (3, .int a3)] := hl
  unfold mX3_alter at hm
  refine lv_aload_n hx hb dX3_alter_0 rfl (lv_at hl 0 rfl) ?_
  refine lv_iconst (v := 0) hx hb dX3_alter_1 (by decide) ?_
  refine va_put (D := D) (ci := 3) (v := .int (0 : Int32)) (ty := .int) (C := RX3) (T := TX3) (N := 20) hx hb hts iwX3_alter_X3 tyX3 tyX3_ok nmX3 hown hK.1 hP hD hS 0 mw_0 rfl 10 (by decide) (hts _ lkX3_alter_61) (fun _ h9 => h9) rfl (by decide +kernel) rfl rfl (Nat.le_of_ble_eq_true rfl) dX3_alter_2 (fun H locs hP hD hS => ?_)
  have hP := eP (mw_s0 (σ := σ) (j := 10) (v := (0 : Int32)) (by rfl)) hP
  have hD := eD (mw_s0 (σ := σ) (j := 10) (v := (0 : Int32)) (by rfl)) hD
  obtain ⟨σ_6, e_6, hm⟩ := sv_some hm
  have hP : va_P D vwCl (mw cy ad σ_6) H := by rw [e_6]; exact hP
  have hD : va_D A (mw cy ad σ_6) := by rw [e_6]; exact hD
  refine lv_aload_n hx hb dX3_alter_5 rfl (lv_at hl 0 rfl) ?_
  refine lv_iload_n hx hb dX3_alter_6 rfl (lv_at hl 1 rfl) ?_
  obtain ⟨q_7, hq_7, hm⟩ := ob hm
  refine zc_i (zr_V [.int a1] [] ⟨hx, hb, hml, hown, hts⟩ (ctX3_isBond l D cy ad σ_6  a1 q_7 hq_7 _) (cwV 1 hts gX3_alter_X3_isBond rfl rfl rfl (by decide +kernel) ⟨Nat.le_of_ble_eq_true rfl, Nat.le_of_ble_eq_true rfl⟩) hK hP hD 0 mw_0 rfl rfl rfl hl.1 rfl (Nat.le_of_ble_eq_true rfl) dX3_alter_7 ⟨Nat.zero_le _, Nat.zero_le _⟩) hD hS hA (fun H locs hP hD hS => ?_)
  refine lv_if_eq (tgt := 25) hx hb dX3_alter_10 (by decide) (fun c_8 => ?_) (fun c_8 => ?_)
  · have hm := ifp c_8 hm
    refine lv_iconst (v := 0) hx hb dX3_alter_25 (by decide) ?_
    exact z_z hx hb hr hlocks (by decide) hm hP hD hS dX3_alter_26
  · have hm := ifn c_8 hm
    refine lv_iload_n hx hb dX3_alter_13 rfl (lv_at hl 2 rfl) ?_
    refine lv_i2l hx hb dX3_alter_14 rfl ?_
    refine lv_lconst (v := 0) hx hb dX3_alter_15 (by decide) ?_
    refine lv_ldc2 (v := 2) hx hb hown (hts _ lkX3_alter_91) dX3_alter_16 ?_
    obtain ⟨q_9, hq_9, hm⟩ := ob hm
    refine zc_i (zr_S [.long (Int32.toInt64 a2), .long (0 : Int64), .long (2 : Int64)] [] ⟨hx, hb, hml, hown, hts⟩ (ctX3_isIn l D cy (mw cy ad σ_6)  (Int32.toInt64 a2) (0 : Int64) (2 : Int64) q_9 hq_9 _) (va_cwS 3 hts gX3_alter_X3_isIn rfl rfl rfl (by decide +kernel) ⟨Nat.le_of_ble_eq_true rfl, Nat.le_of_ble_eq_true rfl⟩) hK hP hD rfl hl.1 rfl (Nat.le_of_ble_eq_true rfl) dX3_alter_19 ⟨Nat.zero_le _, Nat.zero_le _⟩) hD hS hA (fun H locs hP hD hS => ?_)
    refine lv_if_ne (tgt := 27) hx hb dX3_alter_22 (by decide) (fun c_10 => ?_) (fun c_10 => ?_)
    · have hm := ifn c_10 hm
      refine lv_iload_n hx hb dX3_alter_27 rfl (lv_at hl 2 rfl) ?_
      refine lv_if_ne (tgt := 45) hx hb dX3_alter_28 (by decide) (fun c_11 => ?_) (fun c_11 => ?_)
      · have hm := ifn c_11 hm
        refine lv_iload_n hx hb dX3_alter_45 rfl (lv_at hl 2 rfl) ?_
        refine lv_iconst (v := 1) hx hb dX3_alter_46 (by decide) ?_
        refine lv_icmp_ne (tgt := 62) hx hb dX3_alter_47 (by decide) (fun c_12 => ?_) (fun c_12 => ?_)
        · have hm := ifn c_12 hm
          refine lv_iload_n hx hb dX3_alter_62 rfl (lv_at hl 3 rfl) ?_
          refine lv_i2l hx hb dX3_alter_63 rfl ?_
          refine lv_lconst (v := 0) hx hb dX3_alter_64 (by decide) ?_
          refine lv_lconst (v := 1) hx hb dX3_alter_65 (by decide) ?_
          obtain ⟨q_13, hq_13, hm⟩ := ob hm
          refine zc_i (zr_S [.long (Int32.toInt64 a3), .long (0 : Int64), .long (1 : Int64)] [] ⟨hx, hb, hml, hown, hts⟩ (ctX3_isIn l D cy (mw cy ad σ_6)  (Int32.toInt64 a3) (0 : Int64) (1 : Int64) q_13 hq_13 _) (va_cwS 3 hts gX3_alter_X3_isIn rfl rfl rfl (by decide +kernel) ⟨Nat.le_of_ble_eq_true rfl, Nat.le_of_ble_eq_true rfl⟩) hK hP hD rfl hl.1 rfl (Nat.le_of_ble_eq_true rfl) dX3_alter_66 ⟨Nat.zero_le _, Nat.zero_le _⟩) hD hS hA (fun H locs hP hD hS => ?_)
          exact kX3_alter_69_ok C q σ_6 a1 a2 a3 q_13 _ _ hP hD hS _ (lv_sub hl [0, 1, 2, 3] rfl) hm
        · have hm := ifp c_12 hm
          refine lv_iload_n hx hb dX3_alter_50 rfl (lv_at hl 3 rfl) ?_
          refine lv_i2l hx hb dX3_alter_51 rfl ?_
          refine lv_lconst (v := 0) hx hb dX3_alter_52 (by decide) ?_
          refine lv_ldc2 (v := 99) hx hb hown (hts _ lkX3_alter_93) dX3_alter_53 ?_
          obtain ⟨q_14, hq_14, hm⟩ := ob hm
          refine zc_i (zr_S [.long (Int32.toInt64 a3), .long (0 : Int64), .long (99 : Int64)] [] ⟨hx, hb, hml, hown, hts⟩ (ctX3_isIn l D cy (mw cy ad σ_6)  (Int32.toInt64 a3) (0 : Int64) (99 : Int64) q_14 hq_14 _) (va_cwS 3 hts gX3_alter_X3_isIn rfl rfl rfl (by decide +kernel) ⟨Nat.le_of_ble_eq_true rfl, Nat.le_of_ble_eq_true rfl⟩) hK hP hD rfl hl.1 rfl (Nat.le_of_ble_eq_true rfl) dX3_alter_56 ⟨Nat.zero_le _, Nat.zero_le _⟩) hD hS hA (fun H locs hP hD hS => ?_)
          refine lv_goto (tgt := 69) hx hb dX3_alter_59 (by decide) ?_
          exact kX3_alter_69_ok C q σ_6 a1 a2 a3 q_14 _ _ hP hD hS _ (lv_sub hl [0, 1, 2, 3] rfl) hm
      · have hm := ifp c_11 hm
        refine lv_iload_n hx hb dX3_alter_31 rfl (lv_at hl 3 rfl) ?_
        refine lv_i2l hx hb dX3_alter_32 rfl ?_
        refine lv_ldc2 (v := -200) hx hb hown (hts _ lkX3_alter_77) dX3_alter_33 ?_
        refine lv_ldc2 (v := 200) hx hb hown (hts _ lkX3_alter_79) dX3_alter_36 ?_
        obtain ⟨q_15, hq_15, hm⟩ := ob hm
        refine zc_i (zr_S [.long (Int32.toInt64 a3), .long (-200 : Int64), .long (200 : Int64)] [] ⟨hx, hb, hml, hown, hts⟩ (ctX3_isIn l D cy (mw cy ad σ_6)  (Int32.toInt64 a3) (-200 : Int64) (200 : Int64) q_15 hq_15 _) (va_cwS 3 hts gX3_alter_X3_isIn rfl rfl rfl (by decide +kernel) ⟨Nat.le_of_ble_eq_true rfl, Nat.le_of_ble_eq_true rfl⟩) hK hP hD rfl hl.1 rfl (Nat.le_of_ble_eq_true rfl) dX3_alter_39 ⟨Nat.zero_le _, Nat.zero_le _⟩) hD hS hA (fun H locs hP hD hS => ?_)
        refine lv_goto (tgt := 69) hx hb dX3_alter_42 (by decide) ?_
        exact kX3_alter_69_ok C q σ_6 a1 a2 a3 q_15 _ _ hP hD hS _ (lv_sub hl [0, 1, 2, 3] rfl) hm
    · have hm := ifp c_10 hm
      refine lv_iconst (v := 0) hx hb dX3_alter_25 (by decide) ?_
      exact z_z hx hb hr hlocks (by decide) hm hP hD hS dX3_alter_26
abbrev rmX3_owed : Room := { frames := 1, cells := 0, slots := 0, locals := 22 }
theorem lkX3_owed_99 : Cond.constantLong RX3 99 (100000000) ∈ wsX3_owed := by decide +kernel
def mX3_owed (σ : ST) (a1 : Int32) (a2 : Int32) : Option (Int64) := (mX3_of1 σ a1 (0 : Int32)).bind fun q_1 => if q_1 = (2 : Int32) then ((mX3_of1 σ a1 (2 : Int32)).bind fun q_3 => (mX3_of1 σ a1 (3 : Int32)).bind fun q_4 => if (0 : Int32) < ((a2 - (1 : Int32)) - (q_3 - q_4)) then ((mX3_of1 σ a1 (3 : Int32)).bind fun q_6 => gd (nzl (Int32.toInt64 q_6)) (some ((100000000 : Int64) - ((Int32.toInt64 ((a2 - (1 : Int32)) - (q_3 - q_4))) * ((100000000 : Int64) / (Int32.toInt64 q_6)))))) else (some (100000000 : Int64))) else (some (100000000 : Int64))
set_option maxHeartbeats 4000000 in
set_option maxRecDepth 100000 in
theorem ctX3_owed (l : Launch) (D : va_G) (cy : Nat → ClassId) (ad : Nat → Nat → Nat) (σ : ST) (a1 : Int32) (a2 : Int32) (q : Int64) (hm : mX3_owed σ a1 a2 = some q) : zMl l yX3_owed wsX3_owed rmX3_owed D cy [.ref (ad 0 0), .int a1, .int a2] (mw cy ad σ) q (mw cy ad σ) := by
  intro sz
  refine Met.ofW (cc := cX3_owed) (maxL := 4) (ret := (some .long)) (by decide) rfl ?_
  intro p e s m args below meth c s₁ B hml hv
  obtain ⟨rfl, hsz, hP, hK, hD0⟩ := hv
  have hx := B.exec
  have hb := B.bytes
  have hr := B.returns
  have hts := atoms_spec (ws := wsX3_owed) B.pre
  have hown : s.vm.findClass RX3 = some m.cls := findClass_of_methodNamed B.named
  have hlocks := B.notSynchronized
  subst hsz
  have hD := hD0.self (sz := s.heap.size)
  generalize hAe : va_A (mw cy ad σ) s.heap.size = A at hD ⊢
  have hA : ∀ q : Nat, s.heap.size ≤ q → A q := fun q h => by rw [← hAe]; exact Or.inr h
  have hS : va_S A s.heap s.heap [] := va_S.rf
  have C : Cx p s m _ meth c cX3_owed 4 (some .long) RX3 wsX3_owed D cy A := ⟨hx, hb, hml, hown, hts, hr, hlocks, hK, hA⟩
  have hl := lv_entry ([.ref (ad 0 0), .int a1, .int a2]) (n := 4) (Nat.le_of_ble_eq_true rfl)
  rw [lg_entry_eq]
  generalize (lg_sl ([.ref (ad 0 0), .int a1, .int a2]) ++ List.replicate (4 - (lg_sl ([.ref (ad 0 0), .int a1, .int a2])).length) Slot.unset).toArray = ls at hl ⊢
  have hl : lv_has ls 4 [(0, .ref (ad 0 0)), (1, .int a1), (2, .int a2)] := hl
  unfold mX3_owed at hm
  refine lv_aload_n hx hb dX3_owed_0 rfl (lv_at hl 0 rfl) ?_
  refine lv_iload_n hx hb dX3_owed_1 rfl (lv_at hl 1 rfl) ?_
  refine lv_iconst (v := 0) hx hb dX3_owed_2 (by decide) ?_
  obtain ⟨q_1, hq_1, hm⟩ := ob hm
  refine zc_i (zr_V [.int a1, .int (0 : Int32)] [] ⟨hx, hb, hml, hown, hts⟩ (ctX3_of1 l D cy ad σ  a1 (0 : Int32) q_1 hq_1 _) (cwV 2 hts gX3_owed_X3_of1 rfl rfl rfl (by decide +kernel) ⟨Nat.le_of_ble_eq_true rfl, Nat.le_of_ble_eq_true rfl⟩) hK hP hD 0 mw_0 rfl rfl rfl hl.1 rfl (Nat.le_of_ble_eq_true rfl) dX3_owed_3 ⟨Nat.zero_le _, Nat.zero_le _⟩) hD hS hA (fun H locs hP hD hS => ?_)
  refine lv_iconst (v := 2) hx hb dX3_owed_6 (by decide) ?_
  refine lv_icmp_eq (tgt := 14) hx hb dX3_owed_7 (by decide) (fun c_2 => ?_) (fun c_2 => ?_)
  · have hm := ifp c_2 hm
    refine lv_iload_n hx hb dX3_owed_14 rfl (lv_at hl 2 rfl) ?_
    refine lv_iconst (v := 1) hx hb dX3_owed_15 (by decide) ?_
    refine lv_isub hx hb dX3_owed_16 ?_
    refine lv_aload_n hx hb dX3_owed_17 rfl (lv_at hl 0 rfl) ?_
    refine lv_iload_n hx hb dX3_owed_18 rfl (lv_at hl 1 rfl) ?_
    refine lv_iconst (v := 2) hx hb dX3_owed_19 (by decide) ?_
    obtain ⟨q_3, hq_3, hm⟩ := ob hm
    refine zc_i (zr_V [.int a1, .int (2 : Int32)] [.int (a2 - (1 : Int32))] ⟨hx, hb, hml, hown, hts⟩ (ctX3_of1 l D cy ad σ  a1 (2 : Int32) q_3 hq_3 _) (cwV 2 hts gX3_owed_X3_of1 rfl rfl rfl (by decide +kernel) ⟨Nat.le_of_ble_eq_true rfl, Nat.le_of_ble_eq_true rfl⟩) hK hP hD 0 mw_0 rfl rfl rfl hl.1 rfl (Nat.le_of_ble_eq_true rfl) dX3_owed_20 ⟨Nat.zero_le _, Nat.zero_le _⟩) hD hS hA (fun H locs hP hD hS => ?_)
    refine lv_aload_n hx hb dX3_owed_23 rfl (lv_at hl 0 rfl) ?_
    refine lv_iload_n hx hb dX3_owed_24 rfl (lv_at hl 1 rfl) ?_
    refine lv_iconst (v := 3) hx hb dX3_owed_25 (by decide) ?_
    obtain ⟨q_4, hq_4, hm⟩ := ob hm
    refine zc_i (zr_V [.int a1, .int (3 : Int32)] [.int q_3, .int (a2 - (1 : Int32))] ⟨hx, hb, hml, hown, hts⟩ (ctX3_of1 l D cy ad σ  a1 (3 : Int32) q_4 hq_4 _) (cwV 2 hts gX3_owed_X3_of1 rfl rfl rfl (by decide +kernel) ⟨Nat.le_of_ble_eq_true rfl, Nat.le_of_ble_eq_true rfl⟩) hK hP hD 0 mw_0 rfl rfl rfl hl.1 rfl (Nat.le_of_ble_eq_true rfl) dX3_owed_26 ⟨Nat.zero_le _, Nat.zero_le _⟩) hD hS hA (fun H locs hP hD hS => ?_)
    refine lv_isub hx hb dX3_owed_29 ?_
    refine lv_isub hx hb dX3_owed_30 ?_
    refine lv_istore_n (lv' := [(3, .int ((a2 - (1 : Int32)) - (q_3 - q_4))), (0, .ref (ad 0 0)), (1, .int a1), (2, .int a2)]) hx hb dX3_owed_31 rfl hl (by decide) rfl (fun ls hl => ?_)
    refine lv_iload_n hx hb dX3_owed_32 rfl (lv_at hl 0 rfl) ?_
    refine lv_if_gt (tgt := 42) hx hb dX3_owed_33 (by decide) (fun c_5 => ?_) (fun c_5 => ?_)
    · have hm := ifp c_5 hm
      refine lv_ldc2 (v := 100000000) hx hb hown (hts _ lkX3_owed_99) dX3_owed_42 ?_
      refine lv_iload_n hx hb dX3_owed_45 rfl (lv_at hl 0 rfl) ?_
      refine lv_i2l hx hb dX3_owed_46 rfl ?_
      refine lv_ldc2 (v := 100000000) hx hb hown (hts _ lkX3_owed_99) dX3_owed_47 ?_
      refine lv_aload_n hx hb dX3_owed_50 rfl (lv_at hl 1 rfl) ?_
      refine lv_iload_n hx hb dX3_owed_51 rfl (lv_at hl 2 rfl) ?_
      refine lv_iconst (v := 3) hx hb dX3_owed_52 (by decide) ?_
      obtain ⟨q_6, hq_6, hm⟩ := ob hm
      refine zc_i (zr_V [.int a1, .int (3 : Int32)] [.long (100000000 : Int64), .long (Int32.toInt64 ((a2 - (1 : Int32)) - (q_3 - q_4))), .long (100000000 : Int64)] ⟨hx, hb, hml, hown, hts⟩ (ctX3_of1 l D cy ad σ  a1 (3 : Int32) q_6 hq_6 _) (cwV 2 hts gX3_owed_X3_of1 rfl rfl rfl (by decide +kernel) ⟨Nat.le_of_ble_eq_true rfl, Nat.le_of_ble_eq_true rfl⟩) hK hP hD 0 mw_0 rfl rfl rfl hl.1 rfl (Nat.le_of_ble_eq_true rfl) dX3_owed_53 ⟨Nat.zero_le _, Nat.zero_le _⟩) hD hS hA (fun H locs hP hD hS => ?_)
      refine lv_i2l hx hb dX3_owed_56 rfl ?_
      obtain ⟨h_7, hm⟩ := gd_some hm
      refine lv_ldiv hx hb dX3_owed_57 (nzl_n h_7) ?_
      refine lv_lmul hx hb dX3_owed_58 ?_
      refine lv_lsub hx hb dX3_owed_59 ?_
      exact z_pl hx hb hr hlocks hm hP hD hS dX3_owed_60
    · have hm := ifn c_5 hm
      refine lv_ldc2 (v := 100000000) hx hb hown (hts _ lkX3_owed_99) dX3_owed_36 ?_
      refine lv_goto (tgt := 60) hx hb dX3_owed_39 (by decide) ?_
      exact z_pl hx hb hr hlocks hm hP hD hS dX3_owed_60
  · have hm := ifn c_2 hm
    refine lv_ldc2 (v := 100000000) hx hb hown (hts _ lkX3_owed_99) dX3_owed_10 ?_
    exact z_pl hx hb hr hlocks hm hP hD hS dX3_owed_13
abbrev rmX3_back : Room := { frames := 2, cells := 0, slots := 0, locals := 45 }
theorem lkX3_back_99 : Cond.constantLong RX3 99 (100000000) ∈ wsX3_back := by decide +kernel
def mX3_back (σ : ST) (a1 : Int32) (a2 : Int32) : Option (Int64) := (mX3_of1 σ a1 (2 : Int32)).bind fun q_1 => if a2 = q_1 then ((mX3_owed σ a1 a2).bind fun q_10 => some q_10) else ((mX3_of1 σ a1 (0 : Int32)).bind fun q_3 => if q_3 = (2 : Int32) then ((mX3_of1 σ a1 (2 : Int32)).bind fun q_5 => (mX3_of1 σ a1 (3 : Int32)).bind fun q_6 => if a2 ≤ (q_5 - q_6) then (some (0 : Int64)) else ((mX3_of1 σ a1 (3 : Int32)).bind fun q_8 => gd (nzl (Int32.toInt64 q_8)) (some ((100000000 : Int64) / (Int32.toInt64 q_8))))) else (some (0 : Int64)))
set_option maxHeartbeats 4000000 in
set_option maxRecDepth 100000 in
theorem ctX3_back (l : Launch) (D : va_G) (cy : Nat → ClassId) (ad : Nat → Nat → Nat) (σ : ST) (a1 : Int32) (a2 : Int32) (q : Int64) (hm : mX3_back σ a1 a2 = some q) : zMl l yX3_back wsX3_back rmX3_back D cy [.ref (ad 0 0), .int a1, .int a2] (mw cy ad σ) q (mw cy ad σ) := by
  intro sz
  refine Met.ofW (cc := cX3_back) (maxL := 3) (ret := (some .long)) (by decide) rfl ?_
  intro p e s m args below meth c s₁ B hml hv
  obtain ⟨rfl, hsz, hP, hK, hD0⟩ := hv
  have hx := B.exec
  have hb := B.bytes
  have hr := B.returns
  have hts := atoms_spec (ws := wsX3_back) B.pre
  have hown : s.vm.findClass RX3 = some m.cls := findClass_of_methodNamed B.named
  have hlocks := B.notSynchronized
  subst hsz
  have hD := hD0.self (sz := s.heap.size)
  generalize hAe : va_A (mw cy ad σ) s.heap.size = A at hD ⊢
  have hA : ∀ q : Nat, s.heap.size ≤ q → A q := fun q h => by rw [← hAe]; exact Or.inr h
  have hS : va_S A s.heap s.heap [] := va_S.rf
  have C : Cx p s m _ meth c cX3_back 3 (some .long) RX3 wsX3_back D cy A := ⟨hx, hb, hml, hown, hts, hr, hlocks, hK, hA⟩
  have hl := lv_entry ([.ref (ad 0 0), .int a1, .int a2]) (n := 3) (Nat.le_of_ble_eq_true rfl)
  rw [lg_entry_eq]
  generalize (lg_sl ([.ref (ad 0 0), .int a1, .int a2]) ++ List.replicate (3 - (lg_sl ([.ref (ad 0 0), .int a1, .int a2])).length) Slot.unset).toArray = ls at hl ⊢
  have hl : lv_has ls 3 [(0, .ref (ad 0 0)), (1, .int a1), (2, .int a2)] := hl
  unfold mX3_back at hm
  refine lv_iload_n hx hb dX3_back_0 rfl (lv_at hl 2 rfl) ?_
  refine lv_aload_n hx hb dX3_back_1 rfl (lv_at hl 0 rfl) ?_
  refine lv_iload_n hx hb dX3_back_2 rfl (lv_at hl 1 rfl) ?_
  refine lv_iconst (v := 2) hx hb dX3_back_3 (by decide) ?_
  obtain ⟨q_1, hq_1, hm⟩ := ob hm
  refine zc_i (zr_V [.int a1, .int (2 : Int32)] [.int a2] ⟨hx, hb, hml, hown, hts⟩ (ctX3_of1 l D cy ad σ  a1 (2 : Int32) q_1 hq_1 _) (cwV 2 hts gX3_back_X3_of1 rfl rfl rfl (by decide +kernel) ⟨Nat.le_of_ble_eq_true rfl, Nat.le_of_ble_eq_true rfl⟩) hK hP hD 0 mw_0 rfl rfl rfl hl.1 rfl (Nat.le_of_ble_eq_true rfl) dX3_back_4 ⟨Nat.zero_le _, Nat.zero_le _⟩) hD hS hA (fun H locs hP hD hS => ?_)
  refine lv_icmp_ne (tgt := 17) hx hb dX3_back_7 (by decide) (fun c_2 => ?_) (fun c_2 => ?_)
  · have hm := ifn c_2 hm
    refine lv_aload_n hx hb dX3_back_17 rfl (lv_at hl 0 rfl) ?_
    refine lv_iload_n hx hb dX3_back_18 rfl (lv_at hl 1 rfl) ?_
    refine lv_iconst (v := 0) hx hb dX3_back_19 (by decide) ?_
    obtain ⟨q_3, hq_3, hm⟩ := ob hm
    refine zc_i (zr_V [.int a1, .int (0 : Int32)] [] ⟨hx, hb, hml, hown, hts⟩ (ctX3_of1 l D cy ad σ  a1 (0 : Int32) q_3 hq_3 _) (cwV 2 hts gX3_back_X3_of1 rfl rfl rfl (by decide +kernel) ⟨Nat.le_of_ble_eq_true rfl, Nat.le_of_ble_eq_true rfl⟩) hK hP hD 0 mw_0 rfl rfl rfl hl.1 rfl (Nat.le_of_ble_eq_true rfl) dX3_back_20 ⟨Nat.zero_le _, Nat.zero_le _⟩) hD hS hA (fun H locs hP hD hS => ?_)
    refine lv_iconst (v := 2) hx hb dX3_back_23 (by decide) ?_
    refine lv_icmp_ne (tgt := 58) hx hb dX3_back_24 (by decide) (fun c_4 => ?_) (fun c_4 => ?_)
    · have hm := ifn c_4 hm
      refine lv_lconst (v := 0) hx hb dX3_back_58 (by decide) ?_
      exact z_pl hx hb hr hlocks hm hP hD hS dX3_back_59
    · have hm := ifp c_4 hm
      refine lv_iload_n hx hb dX3_back_27 rfl (lv_at hl 2 rfl) ?_
      refine lv_aload_n hx hb dX3_back_28 rfl (lv_at hl 0 rfl) ?_
      refine lv_iload_n hx hb dX3_back_29 rfl (lv_at hl 1 rfl) ?_
      refine lv_iconst (v := 2) hx hb dX3_back_30 (by decide) ?_
      obtain ⟨q_5, hq_5, hm⟩ := ob hm
      refine zc_i (zr_V [.int a1, .int (2 : Int32)] [.int a2] ⟨hx, hb, hml, hown, hts⟩ (ctX3_of1 l D cy ad σ  a1 (2 : Int32) q_5 hq_5 _) (cwV 2 hts gX3_back_X3_of1 rfl rfl rfl (by decide +kernel) ⟨Nat.le_of_ble_eq_true rfl, Nat.le_of_ble_eq_true rfl⟩) hK hP hD 0 mw_0 rfl rfl rfl hl.1 rfl (Nat.le_of_ble_eq_true rfl) dX3_back_31 ⟨Nat.zero_le _, Nat.zero_le _⟩) hD hS hA (fun H locs hP hD hS => ?_)
      refine lv_aload_n hx hb dX3_back_34 rfl (lv_at hl 0 rfl) ?_
      refine lv_iload_n hx hb dX3_back_35 rfl (lv_at hl 1 rfl) ?_
      refine lv_iconst (v := 3) hx hb dX3_back_36 (by decide) ?_
      obtain ⟨q_6, hq_6, hm⟩ := ob hm
      refine zc_i (zr_V [.int a1, .int (3 : Int32)] [.int q_5, .int a2] ⟨hx, hb, hml, hown, hts⟩ (ctX3_of1 l D cy ad σ  a1 (3 : Int32) q_6 hq_6 _) (cwV 2 hts gX3_back_X3_of1 rfl rfl rfl (by decide +kernel) ⟨Nat.le_of_ble_eq_true rfl, Nat.le_of_ble_eq_true rfl⟩) hK hP hD 0 mw_0 rfl rfl rfl hl.1 rfl (Nat.le_of_ble_eq_true rfl) dX3_back_37 ⟨Nat.zero_le _, Nat.zero_le _⟩) hD hS hA (fun H locs hP hD hS => ?_)
      refine lv_isub hx hb dX3_back_40 ?_
      refine lv_icmp_le (tgt := 58) hx hb dX3_back_41 (by decide) (fun c_7 => ?_) (fun c_7 => ?_)
      · have hm := ifp c_7 hm
        refine lv_lconst (v := 0) hx hb dX3_back_58 (by decide) ?_
        exact z_pl hx hb hr hlocks hm hP hD hS dX3_back_59
      · have hm := ifn c_7 hm
        refine lv_ldc2 (v := 100000000) hx hb hown (hts _ lkX3_back_99) dX3_back_44 ?_
        refine lv_aload_n hx hb dX3_back_47 rfl (lv_at hl 0 rfl) ?_
        refine lv_iload_n hx hb dX3_back_48 rfl (lv_at hl 1 rfl) ?_
        refine lv_iconst (v := 3) hx hb dX3_back_49 (by decide) ?_
        obtain ⟨q_8, hq_8, hm⟩ := ob hm
        refine zc_i (zr_V [.int a1, .int (3 : Int32)] [.long (100000000 : Int64)] ⟨hx, hb, hml, hown, hts⟩ (ctX3_of1 l D cy ad σ  a1 (3 : Int32) q_8 hq_8 _) (cwV 2 hts gX3_back_X3_of1 rfl rfl rfl (by decide +kernel) ⟨Nat.le_of_ble_eq_true rfl, Nat.le_of_ble_eq_true rfl⟩) hK hP hD 0 mw_0 rfl rfl rfl hl.1 rfl (Nat.le_of_ble_eq_true rfl) dX3_back_50 ⟨Nat.zero_le _, Nat.zero_le _⟩) hD hS hA (fun H locs hP hD hS => ?_)
        refine lv_i2l hx hb dX3_back_53 rfl ?_
        obtain ⟨h_9, hm⟩ := gd_some hm
        refine lv_ldiv hx hb dX3_back_54 (nzl_n h_9) ?_
        refine lv_goto (tgt := 59) hx hb dX3_back_55 (by decide) ?_
        exact z_pl hx hb hr hlocks hm hP hD hS dX3_back_59
  · have hm := ifp c_2 hm
    refine lv_aload_n hx hb dX3_back_10 rfl (lv_at hl 0 rfl) ?_
    refine lv_iload_n hx hb dX3_back_11 rfl (lv_at hl 1 rfl) ?_
    refine lv_iload_n hx hb dX3_back_12 rfl (lv_at hl 2 rfl) ?_
    obtain ⟨q_10, hq_10, hm⟩ := ob hm
    refine zc_l (zr_V [.int a1, .int a2] [] ⟨hx, hb, hml, hown, hts⟩ (ctX3_owed l D cy ad σ  a1 a2 q_10 hq_10 _) (cwV 2 hts gX3_back_X3_owed rfl rfl rfl (by decide +kernel) ⟨Nat.le_of_ble_eq_true rfl, Nat.le_of_ble_eq_true rfl⟩) hK hP hD 0 mw_0 rfl rfl rfl hl.1 rfl (Nat.le_of_ble_eq_true rfl) dX3_back_13 ⟨Nat.zero_le _, Nat.zero_le _⟩) hD hS hA (fun H locs hP hD hS => ?_)
    exact z_pl hx hb hr hlocks hm hP hD hS dX3_back_16
abbrev rmX3_flow1 : Room := { frames := 3, cells := 0, slots := 0, locals := 67 }
theorem lkX3_flow1_105 : Cond.constantLong RX3 105 (10000) ∈ wsX3_flow1 := by decide +kernel
def bkX3_flow1_30 (σ : ST)  (x1 : Int32) (x2 : Int32) (y0 : Int32) (y1 : Int32) : Option (Int64) := (mX3_owed σ x1 x2).bind fun q_1 => (mX3_back σ x1 x2).bind fun q_2 => some ((((Int32.toInt64 (y0 + y1)) * q_1) / (10000 : Int64)) + q_2)
def kX3_flow1_30 (σ : ST)  (a : Int32 × Int32 × Int32 × Int32) : Option (Int64) := bkX3_flow1_30 σ  a.1 a.2.1 a.2.2.1 a.2.2.2
set_option maxHeartbeats 4000000 in
set_option maxRecDepth 100000 in
theorem kX3_flow1_30_ok {p : Program} {l : Launch} {e : Env} {s : State} {m : MethodId} {args : Array Value} {below : List Frame} {meth : Method} {c : Code} {D : va_G} {cy : Nat → ClassId} {ad : Nat → Nat → Nat} {A : Nat → Prop} (C : Cx p s m args meth c cX3_flow1 5 (some .long) RX3 wsX3_flow1 D cy A) (q : Int64) (σ : ST) : ∀ (x1 : Int32) (x2 : Int32) (y0 : Int32) (y1 : Int32), ∀ (H : Heap) (locs : List Loc), va_P D vwCl (mw cy ad σ) H → va_D A (mw cy ad σ) → va_S A s.heap H locs → ∀ ls : Array Slot, lv_has ls 5 [(0, .ref (ad 0 0)), (1, .int x1), (2, .int x2)] → kX3_flow1_30 σ (x1, x2, y0, y1) = some q → W p l e rmX3_flow1 s m args below meth c H locs 0 0 (MQ below (zQl D (mw cy ad σ) A q) args s 0 0 A) (F0 m 30 ls [.int y1, .int y0]) := by
  obtain ⟨hx, hb, hml, hown, hts, hr, hlocks, hK, hA⟩ := id C
  intro x1 x2 y0 y1 H locs hP hD hS ls hl hm
  have hm : bkX3_flow1_30 σ  x1 x2 y0 y1 = some q := hm
  unfold bkX3_flow1_30 at hm
  refine lv_iadd hx hb dX3_flow1_30 ?_
  refine lv_i2l hx hb dX3_flow1_31 rfl ?_
  refine lv_lstore_n (lv' := [(3, .long (Int32.toInt64 (y0 + y1))), (0, .ref (ad 0 0)), (1, .int x1), (2, .int x2)]) hx hb dX3_flow1_32 rfl hl (by decide) rfl (fun ls hl => ?_)
  refine lv_lload_n hx hb dX3_flow1_33 rfl (lv_at hl 0 rfl) ?_
  refine lv_aload_n hx hb dX3_flow1_34 rfl (lv_at hl 1 rfl) ?_
  refine lv_iload_n hx hb dX3_flow1_35 rfl (lv_at hl 2 rfl) ?_
  refine lv_iload_n hx hb dX3_flow1_36 rfl (lv_at hl 3 rfl) ?_
  obtain ⟨q_1, hq_1, hm⟩ := ob hm
  refine zc_l (zr_V [.int x1, .int x2] [.long (Int32.toInt64 (y0 + y1))] ⟨hx, hb, hml, hown, hts⟩ (ctX3_owed l D cy ad σ  x1 x2 q_1 hq_1 _) (cwV 2 hts gX3_flow1_X3_owed rfl rfl rfl (by decide +kernel) ⟨Nat.le_of_ble_eq_true rfl, Nat.le_of_ble_eq_true rfl⟩) hK hP hD 0 mw_0 rfl rfl rfl hl.1 rfl (Nat.le_of_ble_eq_true rfl) dX3_flow1_37 ⟨Nat.zero_le _, Nat.zero_le _⟩) hD hS hA (fun H locs hP hD hS => ?_)
  refine lv_lmul hx hb dX3_flow1_40 ?_
  refine lv_ldc2 (v := 10000) hx hb hown (hts _ lkX3_flow1_105) dX3_flow1_41 ?_
  refine lv_ldiv hx hb dX3_flow1_44 (by decide) ?_
  refine lv_aload_n hx hb dX3_flow1_45 rfl (lv_at hl 1 rfl) ?_
  refine lv_iload_n hx hb dX3_flow1_46 rfl (lv_at hl 2 rfl) ?_
  refine lv_iload_n hx hb dX3_flow1_47 rfl (lv_at hl 3 rfl) ?_
  obtain ⟨q_2, hq_2, hm⟩ := ob hm
  refine zc_l (zr_V [.int x1, .int x2] [.long (((Int32.toInt64 (y0 + y1)) * q_1) / (10000 : Int64))] ⟨hx, hb, hml, hown, hts⟩ (ctX3_back l D cy ad σ  x1 x2 q_2 hq_2 _) (cwV 2 hts gX3_flow1_X3_back rfl rfl rfl (by decide +kernel) ⟨Nat.le_of_ble_eq_true rfl, Nat.le_of_ble_eq_true rfl⟩) hK hP hD 0 mw_0 rfl rfl rfl hl.1 rfl (Nat.le_of_ble_eq_true rfl) dX3_flow1_48 ⟨Nat.zero_le _, Nat.zero_le _⟩) hD hS hA (fun H locs hP hD hS => ?_)
  refine lv_ladd hx hb dX3_flow1_51 ?_
  exact z_pl hx hb hr hlocks hm hP hD hS dX3_flow1_52
def mX3_flow1 (σ : ST) (a1 : Int32) (a2 : Int32) : Option (Int64) := (mX3_of1 σ a1 (1 : Int32)).bind fun q_3 => (mX3_of1 σ a1 (0 : Int32)).bind fun q_4 => if q_4 = (1 : Int32) then ((mX3_of1 σ a1 (3 : Int32)).bind fun q_6 => kX3_flow1_30 σ (a1, a2, q_3, ((a2 - (1 : Int32)) * q_6))) else (kX3_flow1_30 σ (a1, a2, q_3, (0 : Int32)))
set_option maxHeartbeats 4000000 in
set_option maxRecDepth 100000 in
theorem ctX3_flow1 (l : Launch) (D : va_G) (cy : Nat → ClassId) (ad : Nat → Nat → Nat) (σ : ST) (a1 : Int32) (a2 : Int32) (q : Int64) (hm : mX3_flow1 σ a1 a2 = some q) : zMl l yX3_flow1 wsX3_flow1 rmX3_flow1 D cy [.ref (ad 0 0), .int a1, .int a2] (mw cy ad σ) q (mw cy ad σ) := by
  intro sz
  refine Met.ofW (cc := cX3_flow1) (maxL := 5) (ret := (some .long)) (by decide) rfl ?_
  intro p e s m args below meth c s₁ B hml hv
  obtain ⟨rfl, hsz, hP, hK, hD0⟩ := hv
  have hx := B.exec
  have hb := B.bytes
  have hr := B.returns
  have hts := atoms_spec (ws := wsX3_flow1) B.pre
  have hown : s.vm.findClass RX3 = some m.cls := findClass_of_methodNamed B.named
  have hlocks := B.notSynchronized
  subst hsz
  have hD := hD0.self (sz := s.heap.size)
  generalize hAe : va_A (mw cy ad σ) s.heap.size = A at hD ⊢
  have hA : ∀ q : Nat, s.heap.size ≤ q → A q := fun q h => by rw [← hAe]; exact Or.inr h
  have hS : va_S A s.heap s.heap [] := va_S.rf
  have C : Cx p s m _ meth c cX3_flow1 5 (some .long) RX3 wsX3_flow1 D cy A := ⟨hx, hb, hml, hown, hts, hr, hlocks, hK, hA⟩
  have hl := lv_entry ([.ref (ad 0 0), .int a1, .int a2]) (n := 5) (Nat.le_of_ble_eq_true rfl)
  rw [lg_entry_eq]
  generalize (lg_sl ([.ref (ad 0 0), .int a1, .int a2]) ++ List.replicate (5 - (lg_sl ([.ref (ad 0 0), .int a1, .int a2])).length) Slot.unset).toArray = ls at hl ⊢
  have hl : lv_has ls 5 [(0, .ref (ad 0 0)), (1, .int a1), (2, .int a2)] := hl
  unfold mX3_flow1 at hm
  refine lv_aload_n hx hb dX3_flow1_0 rfl (lv_at hl 0 rfl) ?_
  refine lv_iload_n hx hb dX3_flow1_1 rfl (lv_at hl 1 rfl) ?_
  refine lv_iconst (v := 1) hx hb dX3_flow1_2 (by decide) ?_
  obtain ⟨q_3, hq_3, hm⟩ := ob hm
  refine zc_i (zr_V [.int a1, .int (1 : Int32)] [] ⟨hx, hb, hml, hown, hts⟩ (ctX3_of1 l D cy ad σ  a1 (1 : Int32) q_3 hq_3 _) (cwV 2 hts gX3_flow1_X3_of1 rfl rfl rfl (by decide +kernel) ⟨Nat.le_of_ble_eq_true rfl, Nat.le_of_ble_eq_true rfl⟩) hK hP hD 0 mw_0 rfl rfl rfl hl.1 rfl (Nat.le_of_ble_eq_true rfl) dX3_flow1_3 ⟨Nat.zero_le _, Nat.zero_le _⟩) hD hS hA (fun H locs hP hD hS => ?_)
  refine lv_aload_n hx hb dX3_flow1_6 rfl (lv_at hl 0 rfl) ?_
  refine lv_iload_n hx hb dX3_flow1_7 rfl (lv_at hl 1 rfl) ?_
  refine lv_iconst (v := 0) hx hb dX3_flow1_8 (by decide) ?_
  obtain ⟨q_4, hq_4, hm⟩ := ob hm
  refine zc_i (zr_V [.int a1, .int (0 : Int32)] [.int q_3] ⟨hx, hb, hml, hown, hts⟩ (ctX3_of1 l D cy ad σ  a1 (0 : Int32) q_4 hq_4 _) (cwV 2 hts gX3_flow1_X3_of1 rfl rfl rfl (by decide +kernel) ⟨Nat.le_of_ble_eq_true rfl, Nat.le_of_ble_eq_true rfl⟩) hK hP hD 0 mw_0 rfl rfl rfl hl.1 rfl (Nat.le_of_ble_eq_true rfl) dX3_flow1_9 ⟨Nat.zero_le _, Nat.zero_le _⟩) hD hS hA (fun H locs hP hD hS => ?_)
  refine lv_iconst (v := 1) hx hb dX3_flow1_12 (by decide) ?_
  refine lv_icmp_ne (tgt := 29) hx hb dX3_flow1_13 (by decide) (fun c_5 => ?_) (fun c_5 => ?_)
  · have hm := ifn c_5 hm
    refine lv_iconst (v := 0) hx hb dX3_flow1_29 (by decide) ?_
    exact kX3_flow1_30_ok C q σ a1 a2 q_3 (0 : Int32) _ _ hP hD hS _ (lv_sub hl [0, 1, 2] rfl) hm
  · have hm := ifp c_5 hm
    refine lv_iload_n hx hb dX3_flow1_16 rfl (lv_at hl 2 rfl) ?_
    refine lv_iconst (v := 1) hx hb dX3_flow1_17 (by decide) ?_
    refine lv_isub hx hb dX3_flow1_18 ?_
    refine lv_aload_n hx hb dX3_flow1_19 rfl (lv_at hl 0 rfl) ?_
    refine lv_iload_n hx hb dX3_flow1_20 rfl (lv_at hl 1 rfl) ?_
    refine lv_iconst (v := 3) hx hb dX3_flow1_21 (by decide) ?_
    obtain ⟨q_6, hq_6, hm⟩ := ob hm
    refine zc_i (zr_V [.int a1, .int (3 : Int32)] [.int (a2 - (1 : Int32)), .int q_3] ⟨hx, hb, hml, hown, hts⟩ (ctX3_of1 l D cy ad σ  a1 (3 : Int32) q_6 hq_6 _) (cwV 2 hts gX3_flow1_X3_of1 rfl rfl rfl (by decide +kernel) ⟨Nat.le_of_ble_eq_true rfl, Nat.le_of_ble_eq_true rfl⟩) hK hP hD 0 mw_0 rfl rfl rfl hl.1 rfl (Nat.le_of_ble_eq_true rfl) dX3_flow1_22 ⟨Nat.zero_le _, Nat.zero_le _⟩) hD hS hA (fun H locs hP hD hS => ?_)
    refine lv_imul hx hb dX3_flow1_25 ?_
    refine lv_goto (tgt := 30) hx hb dX3_flow1_26 (by decide) ?_
    exact kX3_flow1_30_ok C q σ a1 a2 q_3 ((a2 - (1 : Int32)) * q_6) _ _ hP hD hS _ (lv_sub hl [0, 1, 2] rfl) hm

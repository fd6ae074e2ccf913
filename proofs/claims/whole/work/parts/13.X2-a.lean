abbrev rmX2_bond : Room := { frames := 3, cells := 0, slots := 0, locals := 70 }
theorem lkX2_bond_44 : Cond.fieldLink RX2 44 "DeliveryBasket" "size" "I" ∈ wsX2_bond := by decide +kernel
theorem iwX2_bond_X2 : ∀ w ∈ wsX20, w ∈ wsX2_bond := fun _ h => List.mem_cons_of_mem _ (List.mem_append_left _ (List.mem_append_right _ h))
theorem lkX2_bond_11 : Cond.fieldLink RX2 11 "DeliveryBasket" "bonds" "[LDeliveryBasket$Bond;" ∈ wsX2_bond := by decide +kernel
theorem lkX2_bond_15 : Cond.fieldLink RX2 15 "DeliveryBasket" "notional" "I" ∈ wsX2_bond := by decide +kernel
def mX2_bond (σ : ST) (a1 : Int32) (a2 : Int32) (a3 : Int32) (a4 : Int32) (a5 : Int32) : Option (Int32 × ST) := if (8 : Int32) ≤ (gI σ 0 0 1) then (some ((-1 : Int32), σ)) else ((mX2_within a5 (-200 : Int32) (200 : Int32)).bind fun q_2 => if q_2 = (0 : Int32) then (some ((-1 : Int32), σ)) else ((mX2_canBe a1 a2 a3 a4).bind fun q_4 => if q_4 = (0 : Int32) then (some ((-1 : Int32), σ)) else (gd (inb (gI σ 0 0 1) 8) (gd (decide ((gP σ (Int32.toNatClampNeg (gI σ 0 0 1))) < 8)) ((mX0_become σ (gP σ (Int32.toNatClampNeg (gI σ 0 0 1))) a1 a2 a3 a4 a5).bind fun q_8 => (mX0_factorBy q_8 (gP σ (Int32.toNatClampNeg (gI σ 0 0 1))) (gI q_8 0 0 2)).bind fun q_9 => sv (sI q_9 0 0 1 ((gI q_9 0 0 1) + (1 : Int32))) fun σ_10 => some (((gI σ_10 0 0 1) - (1 : Int32)), σ_10))))))
set_option maxHeartbeats 4000000 in
set_option maxRecDepth 100000 in
theorem ctX2_bond (l : Launch) (D : va_G) (cy : Nat → ClassId) (ad : Nat → Nat → Nat) (σ : ST) (a1 : Int32) (a2 : Int32) (a3 : Int32) (a4 : Int32) (a5 : Int32) (q : Int32 × ST) (hm : mX2_bond σ a1 a2 a3 a4 a5 = some q) : zMi l yX2_bond wsX2_bond rmX2_bond D cy [.ref (ad 0 0), .int a1, .int a2, .int a3, .int a4, .int a5] (cw cy ad σ) q.1 (cw cy ad q.2) := by
  intro sz
  refine Met.ofW (cc := cX2_bond) (maxL := 7) (ret := (some .int)) (by decide) rfl ?_
  intro p e s m args below meth c s₁ B hml hv
  obtain ⟨rfl, hsz, hP, hK, hD0⟩ := hv
  have hx := B.exec
  have hb := B.bytes
  have hr := B.returns
  have hts := atoms_spec (ws := wsX2_bond) B.pre
  have hown : s.vm.findClass RX2 = some m.cls := findClass_of_methodNamed B.named
  have hlocks := B.notSynchronized
  subst hsz
  have hD := hD0.self (sz := s.heap.size)
  generalize hAe : va_A (cw cy ad σ) s.heap.size = A at hD ⊢
  have hA : ∀ q : Nat, s.heap.size ≤ q → A q := fun q h => by rw [← hAe]; exact Or.inr h
  have hS : va_S A s.heap s.heap [] := va_S.rf
  have C : Cx p s m _ meth c cX2_bond 7 (some .int) RX2 wsX2_bond D cy A := ⟨hx, hb, hml, hown, hts, hr, hlocks, hK, hA⟩
  have hl := lv_entry ([.ref (ad 0 0), .int a1, .int a2, .int a3, .int a4, .int a5]) (n := 7) (Nat.le_of_ble_eq_true rfl)
  rw [lg_entry_eq]
  generalize (lg_sl ([.ref (ad 0 0), .int a1, .int a2, .int a3, .int a4, .int a5]) ++ List.replicate (7 - (lg_sl ([.ref (ad 0 0), .int a1, .int a2, .int a3, .int a4, .int a5])).length) Slot.unset).toArray = ls at hl ⊢
  have hl : lv_has ls 7 [(0, .ref (ad 0 0)), (1, .int a1), (2, .int a2), (3, .int a3), (4, .int a4), (5, .int a5)] := hl
  unfold mX2_bond at hm
  refine lv_aload_n hx hb dX2_bond_0 rfl (lv_at hl 0 rfl) ?_
  refine va_get (D := D) (ci := 2) (v := .int (gI σ 0 0 1)) (C := RX2) (T := TX2) (N := 9) hx hb hts iwX2_bond_X2 hown hK.1 hP 0 cw_0 rfl 1 (by decide) (hts _ lkX2_bond_44) (fun _ h9 => h9) rfl dX2_bond_1 ?_
  refine lv_bipush (v := 8) hx hb dX2_bond_4 (by decide) ?_
  refine lv_icmp_ge (tgt := 34) hx hb dX2_bond_6 (by decide) (fun c_1 => ?_) (fun c_1 => ?_)
  · have hm := ifp c_1 hm
    refine lv_iconst (v := -1) hx hb dX2_bond_34 (by decide) ?_
    exact z_i hx hb hr hlocks hm hP hD hS dX2_bond_35
  · have hm := ifn c_1 hm
    refine lv_iload hx hb dX2_bond_9 (lv_at hl 5 rfl) ?_
    refine lv_sipush (v := -200) hx hb dX2_bond_11 (by decide) ?_
    refine lv_sipush (v := 200) hx hb dX2_bond_14 (by decide) ?_
    obtain ⟨q_2, hq_2, hm⟩ := ob hm
    refine zc_i (zr_S [.int a5, .int (-200 : Int32), .int (200 : Int32)] [] ⟨hx, hb, hml, hown, hts⟩ (ctX2_within l D cy (cw cy ad σ)  a5 (-200 : Int32) (200 : Int32) q_2 hq_2 _) (va_cwS 3 hts gX2_bond_X2_within rfl rfl rfl (by decide +kernel) ⟨Nat.le_of_ble_eq_true rfl, Nat.le_of_ble_eq_true rfl⟩) hK hP hD rfl hl.1 rfl (Nat.le_of_ble_eq_true rfl) dX2_bond_17 ⟨Nat.zero_le _, Nat.zero_le _⟩) hD hS hA (fun H locs hP hD hS => ?_)
    refine lv_if_eq (tgt := 34) hx hb dX2_bond_20 (by decide) (fun c_3 => ?_) (fun c_3 => ?_)
    · have hm := ifp c_3 hm
      refine lv_iconst (v := -1) hx hb dX2_bond_34 (by decide) ?_
      exact z_i hx hb hr hlocks hm hP hD hS dX2_bond_35
    · have hm := ifn c_3 hm
      refine lv_iload_n hx hb dX2_bond_23 rfl (lv_at hl 1 rfl) ?_
      refine lv_iload_n hx hb dX2_bond_24 rfl (lv_at hl 2 rfl) ?_
      refine lv_iload_n hx hb dX2_bond_25 rfl (lv_at hl 3 rfl) ?_
      refine lv_iload hx hb dX2_bond_26 (lv_at hl 4 rfl) ?_
      obtain ⟨q_4, hq_4, hm⟩ := ob hm
      refine zc_i (zr_S [.int a1, .int a2, .int a3, .int a4] [] ⟨hx, hb, hml, hown, hts⟩ (ctX2_canBe l D cy (cw cy ad σ)  a1 a2 a3 a4 q_4 hq_4 _) (va_cwS 4 hts gX2_bond_X2_canBe rfl rfl rfl (by decide +kernel) ⟨Nat.le_of_ble_eq_true rfl, Nat.le_of_ble_eq_true rfl⟩) hK hP hD rfl hl.1 rfl (Nat.le_of_ble_eq_true rfl) dX2_bond_28 ⟨Nat.zero_le _, Nat.zero_le _⟩) hD hS hA (fun H locs hP hD hS => ?_)
      refine lv_if_ne (tgt := 36) hx hb dX2_bond_31 (by decide) (fun c_5 => ?_) (fun c_5 => ?_)
      · have hm := ifn c_5 hm
        refine lv_aload_n hx hb dX2_bond_36 rfl (lv_at hl 0 rfl) ?_
        refine va_get (D := D) (ci := 2) (v := .ref (ad 1 0)) (C := RX2) (T := TX2) (N := 9) hx hb hts iwX2_bond_X2 hown hK.1 hP 0 cw_0 rfl 0 (by decide) (hts _ lkX2_bond_11) (fun _ h9 => h9) rfl dX2_bond_37 ?_
        refine lv_aload_n hx hb dX2_bond_40 rfl (lv_at hl 0 rfl) ?_
        refine va_get (D := D) (ci := 2) (v := .int (gI σ 0 0 1)) (C := RX2) (T := TX2) (N := 9) hx hb hts iwX2_bond_X2 hown hK.1 hP 0 cw_0 rfl 1 (by decide) (hts _ lkX2_bond_44) (fun _ h9 => h9) rfl dX2_bond_41 ?_
        obtain ⟨h_6, hm⟩ := gd_some hm
        obtain ⟨h_7, hm⟩ := gd_some hm
        have h_7 := lt_of_dec h_7
        refine z_ald (f := fun i => ad 13 (gP σ i)) hx hb hK.1 hP 1 2 cw_1 rfl rfl (inb_vp h_6) dX2_bond_44 ?_
        refine lv_astore (lv' := [(6, .ref (ad 13 (gP σ (Int32.toNatClampNeg (gI σ 0 0 1))))), (0, .ref (ad 0 0)), (1, .int a1), (2, .int a2), (3, .int a3), (4, .int a4), (5, .int a5)]) hx hb dX2_bond_45 hl (by decide) rfl (fun ls hl => ?_)
        refine lv_aload hx hb dX2_bond_47 (lv_at hl 0 rfl) ?_
        refine lv_iload_n hx hb dX2_bond_49 rfl (lv_at hl 2 rfl) ?_
        refine lv_iload_n hx hb dX2_bond_50 rfl (lv_at hl 3 rfl) ?_
        refine lv_iload_n hx hb dX2_bond_51 rfl (lv_at hl 4 rfl) ?_
        refine lv_iload hx hb dX2_bond_52 (lv_at hl 5 rfl) ?_
        refine lv_iload hx hb dX2_bond_54 (lv_at hl 6 rfl) ?_
        obtain ⟨q_8, hq_8, hm⟩ := ob hm
        refine zc_v (zr_V [.int a1, .int a2, .int a3, .int a4, .int a5] [] ⟨hx, hb, hml, hown, hts⟩ (ctX0_become l D cy ad σ h_7 (gP σ (Int32.toNatClampNeg (gI σ 0 0 1))) a1 a2 a3 a4 a5 q_8 hq_8 _) (cwV 5 hts gX2_bond_X0_become rfl rfl rfl (by decide +kernel) ⟨Nat.le_of_ble_eq_true rfl, Nat.le_of_ble_eq_true rfl⟩) hK hP hD (13 + (gP σ (Int32.toNatClampNeg (gI σ 0 0 1)))) (cw_13 h_7) rfl rfl rfl hl.1 rfl (Nat.le_of_ble_eq_true rfl) dX2_bond_56 ⟨Nat.zero_le _, Nat.zero_le _⟩) hD hS hA (fun H locs hP hD hS => ?_)
        refine lv_aload hx hb dX2_bond_59 (lv_at hl 0 rfl) ?_
        refine lv_aload_n hx hb dX2_bond_61 rfl (lv_at hl 1 rfl) ?_
        refine va_get (D := D) (ci := 2) (v := .int (gI q_8 0 0 2)) (C := RX2) (T := TX2) (N := 9) hx hb hts iwX2_bond_X2 hown hK.1 hP 0 cw_0 rfl 2 (by decide) (hts _ lkX2_bond_15) (fun _ h9 => h9) rfl dX2_bond_62 ?_
        obtain ⟨q_9, hq_9, hm⟩ := ob hm
        refine zc_v (zr_V [.int (gI q_8 0 0 2)] [] ⟨hx, hb, hml, hown, hts⟩ (ctX0_factorBy l D cy ad q_8 h_7 (gP σ (Int32.toNatClampNeg (gI σ 0 0 1))) (gI q_8 0 0 2) q_9 hq_9 _) (cwV 1 hts gX2_bond_X0_factorBy rfl rfl rfl (by decide +kernel) ⟨Nat.le_of_ble_eq_true rfl, Nat.le_of_ble_eq_true rfl⟩) hK hP hD (13 + (gP σ (Int32.toNatClampNeg (gI σ 0 0 1)))) (cw_13 h_7) rfl rfl rfl hl.1 rfl (Nat.le_of_ble_eq_true rfl) dX2_bond_65 ⟨Nat.zero_le _, Nat.zero_le _⟩) hD hS hA (fun H locs hP hD hS => ?_)
        refine lv_aload_n hx hb dX2_bond_68 rfl (lv_at hl 1 rfl) ?_
        refine lv_dup hx hb dX2_bond_69 rfl ?_
        refine va_get (D := D) (ci := 2) (v := .int (gI q_9 0 0 1)) (C := RX2) (T := TX2) (N := 9) hx hb hts iwX2_bond_X2 hown hK.1 hP 0 cw_0 rfl 1 (by decide) (hts _ lkX2_bond_44) (fun _ h9 => h9) rfl dX2_bond_70 ?_
        refine lv_iconst (v := 1) hx hb dX2_bond_73 (by decide) ?_
        refine lv_iadd hx hb dX2_bond_74 ?_
        refine va_put (D := D) (ci := 2) (v := .int ((gI q_9 0 0 1) + (1 : Int32))) (ty := .int) (C := RX2) (T := TX2) (N := 9) hx hb hts iwX2_bond_X2 tyX2 tyX2_ok nmX2 hown hK.1 hP hD hS 0 cw_0 rfl 1 (by decide) (hts _ lkX2_bond_44) (fun _ h9 => h9) rfl (by decide +kernel) rfl rfl (Nat.le_of_ble_eq_true rfl) dX2_bond_75 (fun H locs hP hD hS => ?_)
        have hP := eP (cw_s0 (σ := q_9) (j := 1) (v := ((gI q_9 0 0 1) + (1 : Int32))) (by rfl)) hP
        have hD := eD (cw_s0 (σ := q_9) (j := 1) (v := ((gI q_9 0 0 1) + (1 : Int32))) (by rfl)) hD
        obtain ⟨σ_10, e_10, hm⟩ := sv_some hm
        have hP : va_P D vwCl (cw cy ad σ_10) H := by rw [e_10]; exact hP
        have hD : va_D A (cw cy ad σ_10) := by rw [e_10]; exact hD
        refine lv_aload_n hx hb dX2_bond_78 rfl (lv_at hl 1 rfl) ?_
        refine va_get (D := D) (ci := 2) (v := .int (gI σ_10 0 0 1)) (C := RX2) (T := TX2) (N := 9) hx hb hts iwX2_bond_X2 hown hK.1 hP 0 cw_0 rfl 1 (by decide) (hts _ lkX2_bond_44) (fun _ h9 => h9) rfl dX2_bond_79 ?_
        refine lv_iconst (v := 1) hx hb dX2_bond_82 (by decide) ?_
        refine lv_isub hx hb dX2_bond_83 ?_
        exact z_i hx hb hr hlocks hm hP hD hS dX2_bond_84
      · have hm := ifp c_5 hm
        refine lv_iconst (v := -1) hx hb dX2_bond_34 (by decide) ?_
        exact z_i hx hb hr hlocks hm hP hD hS dX2_bond_35
abbrev rmX2_has : Room := { frames := 1, cells := 0, slots := 0, locals := 22 }
theorem lkX2_has_44 : Cond.fieldLink RX2 44 "DeliveryBasket" "size" "I" ∈ wsX2_has := by decide +kernel
theorem iwX2_has_X2 : ∀ w ∈ wsX20, w ∈ wsX2_has := fun _ h => List.mem_cons_of_mem _ (List.mem_append_right _ h)
def mX2_has (σ : ST) (a1 : Int32) : Option (Int32) := (mX2_within a1 (0 : Int32) ((gI σ 0 0 1) - (1 : Int32))).bind fun q_1 => gd (zb q_1) (some q_1)
set_option maxHeartbeats 4000000 in
set_option maxRecDepth 100000 in
theorem ctX2_has (l : Launch) (D : va_G) (cy : Nat → ClassId) (ad : Nat → Nat → Nat) (σ : ST) (a1 : Int32) (q : Int32) (hm : mX2_has σ a1 = some q) : zMi l yX2_has wsX2_has rmX2_has D cy [.ref (ad 0 0), .int a1] (cw cy ad σ) q (cw cy ad σ) := by
  intro sz
  refine Met.ofW (cc := cX2_has) (maxL := 2) (ret := (some .boolean)) (by decide) rfl ?_
  intro p e s m args below meth c s₁ B hml hv
  obtain ⟨rfl, hsz, hP, hK, hD0⟩ := hv
  have hx := B.exec
  have hb := B.bytes
  have hr := B.returns
  have hts := atoms_spec (ws := wsX2_has) B.pre
  have hown : s.vm.findClass RX2 = some m.cls := findClass_of_methodNamed B.named
  have hlocks := B.notSynchronized
  subst hsz
  have hD := hD0.self (sz := s.heap.size)
  generalize hAe : va_A (cw cy ad σ) s.heap.size = A at hD ⊢
  have hA : ∀ q : Nat, s.heap.size ≤ q → A q := fun q h => by rw [← hAe]; exact Or.inr h
  have hS : va_S A s.heap s.heap [] := va_S.rf
  have C : Cx p s m _ meth c cX2_has 2 (some .boolean) RX2 wsX2_has D cy A := ⟨hx, hb, hml, hown, hts, hr, hlocks, hK, hA⟩
  have hl := lv_entry ([.ref (ad 0 0), .int a1]) (n := 2) (Nat.le_of_ble_eq_true rfl)
  rw [lg_entry_eq]
  generalize (lg_sl ([.ref (ad 0 0), .int a1]) ++ List.replicate (2 - (lg_sl ([.ref (ad 0 0), .int a1])).length) Slot.unset).toArray = ls at hl ⊢
  have hl : lv_has ls 2 [(0, .ref (ad 0 0)), (1, .int a1)] := hl
  unfold mX2_has at hm
  refine lv_iload_n hx hb dX2_has_0 rfl (lv_at hl 1 rfl) ?_
  refine lv_iconst (v := 0) hx hb dX2_has_1 (by decide) ?_
  refine lv_aload_n hx hb dX2_has_2 rfl (lv_at hl 0 rfl) ?_
  refine va_get (D := D) (ci := 2) (v := .int (gI σ 0 0 1)) (C := RX2) (T := TX2) (N := 9) hx hb hts iwX2_has_X2 hown hK.1 hP 0 cw_0 rfl 1 (by decide) (hts _ lkX2_has_44) (fun _ h9 => h9) rfl dX2_has_3 ?_
  refine lv_iconst (v := 1) hx hb dX2_has_6 (by decide) ?_
  refine lv_isub hx hb dX2_has_7 ?_
  obtain ⟨q_1, hq_1, hm⟩ := ob hm
  refine zc_i (zr_S [.int a1, .int (0 : Int32), .int ((gI σ 0 0 1) - (1 : Int32))] [] ⟨hx, hb, hml, hown, hts⟩ (ctX2_within l D cy (cw cy ad σ)  a1 (0 : Int32) ((gI σ 0 0 1) - (1 : Int32)) q_1 hq_1 _) (va_cwS 3 hts gX2_has_X2_within rfl rfl rfl (by decide +kernel) ⟨Nat.le_of_ble_eq_true rfl, Nat.le_of_ble_eq_true rfl⟩) hK hP hD rfl hl.1 rfl (Nat.le_of_ble_eq_true rfl) dX2_has_8 ⟨Nat.zero_le _, Nat.zero_le _⟩) hD hS hA (fun H locs hP hD hS => ?_)
  obtain ⟨h_2, hm⟩ := gd_some hm
  exact z_pz hx hb hr hlocks h_2 hm hP hD hS dX2_has_11
abbrev rmX2_drop : Room := { frames := 2, cells := 0, slots := 0, locals := 43 }
theorem lkX2_drop_44 : Cond.fieldLink RX2 44 "DeliveryBasket" "size" "I" ∈ wsX2_drop := by decide +kernel
theorem iwX2_drop_X2 : ∀ w ∈ wsX20, w ∈ wsX2_drop := fun _ h => List.mem_cons_of_mem _ (List.mem_append_right _ h)
theorem lkX2_drop_11 : Cond.fieldLink RX2 11 "DeliveryBasket" "bonds" "[LDeliveryBasket$Bond;" ∈ wsX2_drop := by decide +kernel
def bkX2_drop_19  (rec : ST × Nat × Int32 → Option (Int32 × ST)) (σ : ST) (k2 : Nat) (x3 : Int32) : Option (Int32 × ST) := gd (decide (k2 < 8)) (if (gI σ 0 0 1) ≤ (x3 + (1 : Int32)) then (sv (sI σ 0 0 1 ((gI σ 0 0 1) - (1 : Int32))) fun σ_2 => gd (inb (gI σ_2 0 0 1) 8) (sv (sP σ_2 (Int32.toNatClampNeg (gI σ_2 0 0 1)) k2) fun σ_4 => some ((gI σ_4 0 0 1), σ_4))) else (gd (inb (x3 + (1 : Int32)) 8) (gd (decide ((gP σ (Int32.toNatClampNeg (x3 + (1 : Int32)))) < 8)) (gd (inb x3 8) (sv (sP σ (Int32.toNatClampNeg x3) (gP σ (Int32.toNatClampNeg (x3 + (1 : Int32))))) fun σ_8 => rec (σ_8, k2, (x3 + (1 : Int32))))))))
def kX2_drop_19  (n : Nat) (a : ST × Nat × Int32) : Option (Int32 × ST) := fx (fun rec a => bkX2_drop_19  rec a.1 a.2.1 a.2.2) n a
set_option maxHeartbeats 4000000 in
set_option maxRecDepth 100000 in
theorem kX2_drop_19_ok {p : Program} {l : Launch} {e : Env} {s : State} {m : MethodId} {args : Array Value} {below : List Frame} {meth : Method} {c : Code} {D : va_G} {cy : Nat → ClassId} {ad : Nat → Nat → Nat} {A : Nat → Prop} (C : Cx p s m args meth c cX2_drop 4 (some .int) RX2 wsX2_drop D cy A) (q : Int32 × ST) : ∀ (n : Nat) (σ : ST) (k2 : Nat) (x3 : Int32), ∀ (H : Heap) (locs : List Loc), va_P D vwCl (cw cy ad σ) H → va_D A (cw cy ad σ) → va_S A s.heap H locs → ∀ ls : Array Slot, lv_has ls 4 [(0, .ref (ad 0 0)), (2, .ref (ad 13 k2)), (3, .int x3)] → kX2_drop_19 n (σ, k2, x3) = some q → W p l e rmX2_drop s m args below meth c H locs 0 0 (MQ below (zQi D (cw cy ad q.2) A q.1) args s 0 0 A) (F0 m 19 ls []) := by
  obtain ⟨hx, hb, hml, hown, hts, hr, hlocks, hK, hA⟩ := id C
  intro n
  induction n with
  | zero => intro σ k2 x3 H locs hP hD hS ls hl hm; cases hm
  | succ n ih =>
    intro σ k2 x3 H locs hP hD hS ls hl hm
    have hm : bkX2_drop_19  (kX2_drop_19 n) σ k2 x3 = some q := hm
    unfold bkX2_drop_19 at hm
    obtain ⟨hk_k2, hm⟩ := gd_some hm
    have hk_k2 := lt_of_dec hk_k2
    refine lv_iload_n hx hb dX2_drop_19 rfl (lv_at hl 2 rfl) ?_
    refine lv_iconst (v := 1) hx hb dX2_drop_20 (by decide) ?_
    refine lv_iadd hx hb dX2_drop_21 ?_
    refine lv_aload_n hx hb dX2_drop_22 rfl (lv_at hl 0 rfl) ?_
    refine va_get (D := D) (ci := 2) (v := .int (gI σ 0 0 1)) (C := RX2) (T := TX2) (N := 9) hx hb hts iwX2_drop_X2 hown hK.1 hP 0 cw_0 rfl 1 (by decide) (hts _ lkX2_drop_44) (fun _ h9 => h9) rfl dX2_drop_23 ?_
    refine lv_icmp_ge (tgt := 49) hx hb dX2_drop_26 (by decide) (fun c_1 => ?_) (fun c_1 => ?_)
    · have hm := ifp c_1 hm
      refine lv_aload_n hx hb dX2_drop_49 rfl (lv_at hl 0 rfl) ?_
      refine lv_dup hx hb dX2_drop_50 rfl ?_
      refine va_get (D := D) (ci := 2) (v := .int (gI σ 0 0 1)) (C := RX2) (T := TX2) (N := 9) hx hb hts iwX2_drop_X2 hown hK.1 hP 0 cw_0 rfl 1 (by decide) (hts _ lkX2_drop_44) (fun _ h9 => h9) rfl dX2_drop_51 ?_
      refine lv_iconst (v := 1) hx hb dX2_drop_54 (by decide) ?_
      refine lv_isub hx hb dX2_drop_55 ?_
      refine va_put (D := D) (ci := 2) (v := .int ((gI σ 0 0 1) - (1 : Int32))) (ty := .int) (C := RX2) (T := TX2) (N := 9) hx hb hts iwX2_drop_X2 tyX2 tyX2_ok nmX2 hown hK.1 hP hD hS 0 cw_0 rfl 1 (by decide) (hts _ lkX2_drop_44) (fun _ h9 => h9) rfl (by decide +kernel) rfl rfl (Nat.le_of_ble_eq_true rfl) dX2_drop_56 (fun H locs hP hD hS => ?_)
      have hP := eP (cw_s0 (σ := σ) (j := 1) (v := ((gI σ 0 0 1) - (1 : Int32))) (by rfl)) hP
      have hD := eD (cw_s0 (σ := σ) (j := 1) (v := ((gI σ 0 0 1) - (1 : Int32))) (by rfl)) hD
      obtain ⟨σ_2, e_2, hm⟩ := sv_some hm
      have hP : va_P D vwCl (cw cy ad σ_2) H := by rw [e_2]; exact hP
      have hD : va_D A (cw cy ad σ_2) := by rw [e_2]; exact hD
      refine lv_aload_n hx hb dX2_drop_59 rfl (lv_at hl 0 rfl) ?_
      refine va_get (D := D) (ci := 2) (v := .ref (ad 1 0)) (C := RX2) (T := TX2) (N := 9) hx hb hts iwX2_drop_X2 hown hK.1 hP 0 cw_0 rfl 0 (by decide) (hts _ lkX2_drop_11) (fun _ h9 => h9) rfl dX2_drop_60 ?_
      refine lv_aload_n hx hb dX2_drop_63 rfl (lv_at hl 0 rfl) ?_
      refine va_get (D := D) (ci := 2) (v := .int (gI σ_2 0 0 1)) (C := RX2) (T := TX2) (N := 9) hx hb hts iwX2_drop_X2 hown hK.1 hP 0 cw_0 rfl 1 (by decide) (hts _ lkX2_drop_44) (fun _ h9 => h9) rfl dX2_drop_64 ?_
      refine lv_aload_n hx hb dX2_drop_67 rfl (lv_at hl 1 rfl) ?_
      obtain ⟨h_3, hm⟩ := gd_some hm
      refine va_astq (ci := 0) (r := (RX0, TX0, 10)) hx hb hK.1 hP hD hS 1 2 (13 + k2) cw_1 rfl (cw_13 hk_k2) rfl (inb_vp h_3) dX2_drop_68 (fun H locs hP hD hS => ?_)
      have hP := eP cw_s1 hP
      have hD := eD cw_s1 hD
      obtain ⟨σ_4, e_4, hm⟩ := sv_some hm
      have hP : va_P D vwCl (cw cy ad σ_4) H := by rw [e_4]; exact hP
      have hD : va_D A (cw cy ad σ_4) := by rw [e_4]; exact hD
      refine lv_aload_n hx hb dX2_drop_69 rfl (lv_at hl 0 rfl) ?_
      refine va_get (D := D) (ci := 2) (v := .int (gI σ_4 0 0 1)) (C := RX2) (T := TX2) (N := 9) hx hb hts iwX2_drop_X2 hown hK.1 hP 0 cw_0 rfl 1 (by decide) (hts _ lkX2_drop_44) (fun _ h9 => h9) rfl dX2_drop_70 ?_
      exact z_i hx hb hr hlocks hm hP hD hS dX2_drop_73
    · have hm := ifn c_1 hm
      refine lv_aload_n hx hb dX2_drop_29 rfl (lv_at hl 0 rfl) ?_
      refine va_get (D := D) (ci := 2) (v := .ref (ad 1 0)) (C := RX2) (T := TX2) (N := 9) hx hb hts iwX2_drop_X2 hown hK.1 hP 0 cw_0 rfl 0 (by decide) (hts _ lkX2_drop_11) (fun _ h9 => h9) rfl dX2_drop_30 ?_
      refine lv_iload_n hx hb dX2_drop_33 rfl (lv_at hl 2 rfl) ?_
      refine lv_aload_n hx hb dX2_drop_34 rfl (lv_at hl 0 rfl) ?_
      refine va_get (D := D) (ci := 2) (v := .ref (ad 1 0)) (C := RX2) (T := TX2) (N := 9) hx hb hts iwX2_drop_X2 hown hK.1 hP 0 cw_0 rfl 0 (by decide) (hts _ lkX2_drop_11) (fun _ h9 => h9) rfl dX2_drop_35 ?_
      refine lv_iload_n hx hb dX2_drop_38 rfl (lv_at hl 2 rfl) ?_
      refine lv_iconst (v := 1) hx hb dX2_drop_39 (by decide) ?_
      refine lv_iadd hx hb dX2_drop_40 ?_
      obtain ⟨h_5, hm⟩ := gd_some hm
      obtain ⟨h_6, hm⟩ := gd_some hm
      have h_6 := lt_of_dec h_6
      refine z_ald (f := fun i => ad 13 (gP σ i)) hx hb hK.1 hP 1 2 cw_1 rfl rfl (inb_vp h_5) dX2_drop_41 ?_
      obtain ⟨h_7, hm⟩ := gd_some hm
      refine va_astq (ci := 0) (r := (RX0, TX0, 10)) hx hb hK.1 hP hD hS 1 2 (13 + (gP σ (Int32.toNatClampNeg (x3 + (1 : Int32))))) cw_1 rfl (cw_13 h_6) rfl (inb_vp h_7) dX2_drop_42 (fun H locs hP hD hS => ?_)
      have hP := eP cw_s1 hP
      have hD := eD cw_s1 hD
      obtain ⟨σ_8, e_8, hm⟩ := sv_some hm
      have hP : va_P D vwCl (cw cy ad σ_8) H := by rw [e_8]; exact hP
      have hD : va_D A (cw cy ad σ_8) := by rw [e_8]; exact hD
      refine lv_iinc (v := (x3 + (1 : Int32))) (lv' := [(3, .int (x3 + (1 : Int32))), (0, .ref (ad 0 0)), (2, .ref (ad 13 k2))]) hx hb dX2_drop_43 hl (k := 2) rfl rfl (by decide) rfl (fun ls hl => ?_)
      refine lv_goto (tgt := 19) hx hb dX2_drop_46 (by decide) ?_
      exact ih σ_8 k2 (x3 + (1 : Int32)) _ _ hP hD hS _ (lv_sub hl [1, 2, 0] rfl) hm
def mX2_drop (σ : ST) (a1 : Int32) : Option (Int32 × ST) := (mX2_has σ a1).bind fun q_9 => if q_9 = (0 : Int32) then (some ((-1 : Int32), σ)) else (gd (inb a1 8) (gd (decide ((gP σ (Int32.toNatClampNeg a1)) < 8)) (kX2_drop_19 FU (σ, (gP σ (Int32.toNatClampNeg a1)), a1))))
set_option maxHeartbeats 4000000 in
set_option maxRecDepth 100000 in
theorem ctX2_drop (l : Launch) (D : va_G) (cy : Nat → ClassId) (ad : Nat → Nat → Nat) (σ : ST) (a1 : Int32) (q : Int32 × ST) (hm : mX2_drop σ a1 = some q) : zMi l yX2_drop wsX2_drop rmX2_drop D cy [.ref (ad 0 0), .int a1] (cw cy ad σ) q.1 (cw cy ad q.2) := by
  intro sz
  refine Met.ofW (cc := cX2_drop) (maxL := 4) (ret := (some .int)) (by decide) rfl ?_
  intro p e s m args below meth c s₁ B hml hv
  obtain ⟨rfl, hsz, hP, hK, hD0⟩ := hv
  have hx := B.exec
  have hb := B.bytes
  have hr := B.returns
  have hts := atoms_spec (ws := wsX2_drop) B.pre
  have hown : s.vm.findClass RX2 = some m.cls := findClass_of_methodNamed B.named
  have hlocks := B.notSynchronized
  subst hsz
  have hD := hD0.self (sz := s.heap.size)
  generalize hAe : va_A (cw cy ad σ) s.heap.size = A at hD ⊢
  have hA : ∀ q : Nat, s.heap.size ≤ q → A q := fun q h => by rw [← hAe]; exact Or.inr h
  have hS : va_S A s.heap s.heap [] := va_S.rf
  have C : Cx p s m _ meth c cX2_drop 4 (some .int) RX2 wsX2_drop D cy A := ⟨hx, hb, hml, hown, hts, hr, hlocks, hK, hA⟩
  have hl := lv_entry ([.ref (ad 0 0), .int a1]) (n := 4) (Nat.le_of_ble_eq_true rfl)
  rw [lg_entry_eq]
  generalize (lg_sl ([.ref (ad 0 0), .int a1]) ++ List.replicate (4 - (lg_sl ([.ref (ad 0 0), .int a1])).length) Slot.unset).toArray = ls at hl ⊢
  have hl : lv_has ls 4 [(0, .ref (ad 0 0)), (1, .int a1)] := hl
  unfold mX2_drop at hm
  refine lv_aload_n hx hb dX2_drop_0 rfl (lv_at hl 0 rfl) ?_
  refine lv_iload_n hx hb dX2_drop_1 rfl (lv_at hl 1 rfl) ?_
  obtain ⟨q_9, hq_9, hm⟩ := ob hm
  refine zc_i (zr_V [.int a1] [] ⟨hx, hb, hml, hown, hts⟩ (ctX2_has l D cy ad σ  a1 q_9 hq_9 _) (cwV 1 hts gX2_drop_X2_has rfl rfl rfl (by decide +kernel) ⟨Nat.le_of_ble_eq_true rfl, Nat.le_of_ble_eq_true rfl⟩) hK hP hD 0 cw_0 rfl rfl rfl hl.1 rfl (Nat.le_of_ble_eq_true rfl) dX2_drop_2 ⟨Nat.zero_le _, Nat.zero_le _⟩) hD hS hA (fun H locs hP hD hS => ?_)
  refine lv_if_ne (tgt := 10) hx hb dX2_drop_5 (by decide) (fun c_10 => ?_) (fun c_10 => ?_)
  · have hm := ifn c_10 hm
    refine lv_aload_n hx hb dX2_drop_10 rfl (lv_at hl 0 rfl) ?_
    refine va_get (D := D) (ci := 2) (v := .ref (ad 1 0)) (C := RX2) (T := TX2) (N := 9) hx hb hts iwX2_drop_X2 hown hK.1 hP 0 cw_0 rfl 0 (by decide) (hts _ lkX2_drop_11) (fun _ h9 => h9) rfl dX2_drop_11 ?_
    refine lv_iload_n hx hb dX2_drop_14 rfl (lv_at hl 1 rfl) ?_
    obtain ⟨h_11, hm⟩ := gd_some hm
    obtain ⟨h_12, hm⟩ := gd_some hm
    have h_12 := lt_of_dec h_12
    refine z_ald (f := fun i => ad 13 (gP σ i)) hx hb hK.1 hP 1 2 cw_1 rfl rfl (inb_vp h_11) dX2_drop_15 ?_
    refine lv_astore_n (lv' := [(2, .ref (ad 13 (gP σ (Int32.toNatClampNeg a1)))), (0, .ref (ad 0 0)), (1, .int a1)]) hx hb dX2_drop_16 rfl hl (by decide) rfl (fun ls hl => ?_)
    refine lv_iload_n hx hb dX2_drop_17 rfl (lv_at hl 2 rfl) ?_
    refine lv_istore_n (lv' := [(3, .int a1), (2, .ref (ad 13 (gP σ (Int32.toNatClampNeg a1)))), (0, .ref (ad 0 0)), (1, .int a1)]) hx hb dX2_drop_18 rfl hl (by decide) rfl (fun ls hl => ?_)
    exact kX2_drop_19_ok C q FU σ (gP σ (Int32.toNatClampNeg a1)) a1 _ _ hP hD hS _ (lv_sub hl [2, 1, 0] rfl) hm
  · have hm := ifp c_10 hm
    refine lv_iconst (v := -1) hx hb dX2_drop_8 (by decide) ?_
    exact z_i hx hb hr hlocks hm hP hD hS dX2_drop_9
abbrev rmX2_alter : Room := { frames := 2, cells := 0, slots := 0, locals := 43 }
theorem lkX2_alter_11 : Cond.fieldLink RX2 11 "DeliveryBasket" "bonds" "[LDeliveryBasket$Bond;" ∈ wsX2_alter := by decide +kernel
theorem iwX2_alter_X2 : ∀ w ∈ wsX20, w ∈ wsX2_alter := fun _ h => List.mem_cons_of_mem _ (List.mem_append_left _ (List.mem_append_right _ h))
def mX2_alter (σ : ST) (a1 : Int32) (a2 : Int32) (a3 : Int32) : Option (Int32 × ST) := (mX2_has σ a1).bind fun q_1 => if q_1 = (0 : Int32) then (some ((0 : Int32), σ)) else (gd (inb a1 8) (gd (decide ((gP σ (Int32.toNatClampNeg a1)) < 8)) (if a2 = (0 : Int32) then ((mX0_changeSpread σ (gP σ (Int32.toNatClampNeg a1)) a3).bind fun q_6 => gd (zb q_6.1) (some (q_6.1, q_6.2))) else (if a2 = (1 : Int32) then ((mX0_changeStock σ (gP σ (Int32.toNatClampNeg a1)) a3).bind fun q_9 => gd (zb q_9.1) (some (q_9.1, q_9.2))) else (if a2 = (2 : Int32) then ((mX0_changeBarred σ (gP σ (Int32.toNatClampNeg a1)) a3).bind fun q_12 => gd (zb q_12.1) (some (q_12.1, q_12.2))) else (some ((0 : Int32), σ)))))))
set_option maxHeartbeats 4000000 in
set_option maxRecDepth 100000 in
theorem ctX2_alter (l : Launch) (D : va_G) (cy : Nat → ClassId) (ad : Nat → Nat → Nat) (σ : ST) (a1 : Int32) (a2 : Int32) (a3 : Int32) (q : Int32 × ST) (hm : mX2_alter σ a1 a2 a3 = some q) : zMi l yX2_alter wsX2_alter rmX2_alter D cy [.ref (ad 0 0), .int a1, .int a2, .int a3] (cw cy ad σ) q.1 (cw cy ad q.2) := by
  intro sz
  refine Met.ofW (cc := cX2_alter) (maxL := 5) (ret := (some .boolean)) (by decide) rfl ?_
  intro p e s m args below meth c s₁ B hml hv
  obtain ⟨rfl, hsz, hP, hK, hD0⟩ := hv
  have hx := B.exec
  have hb := B.bytes
  have hr := B.returns
  have hts := atoms_spec (ws := wsX2_alter) B.pre
  have hown : s.vm.findClass RX2 = some m.cls := findClass_of_methodNamed B.named
  have hlocks := B.notSynchronized
  subst hsz
  have hD := hD0.self (sz := s.heap.size)
  generalize hAe : va_A (cw cy ad σ) s.heap.size = A at hD ⊢
  have hA : ∀ q : Nat, s.heap.size ≤ q → A q := fun q h => by rw [← hAe]; exact Or.inr h
  have hS : va_S A s.heap s.heap [] := va_S.rf
  have C : Cx p s m _ meth c cX2_alter 5 (some .boolean) RX2 wsX2_alter D cy A := ⟨hx, hb, hml, hown, hts, hr, hlocks, hK, hA⟩
  have hl := lv_entry ([.ref (ad 0 0), .int a1, .int a2, .int a3]) (n := 5) (Nat.le_of_ble_eq_true rfl)
  rw [lg_entry_eq]
  generalize (lg_sl ([.ref (ad 0 0), .int a1, .int a2, .int a3]) ++ List.replicate (5 - (lg_sl ([.ref (ad 0 0), .int a1, .int a2, .int a3])).length) Slot.unset).toArray = ls at hl ⊢
  have hl : lv_has ls 5 [(0, .ref (ad 0 0)), (1, .int a1), (2, .int a2), (3, .int a3)] := hl
  unfold mX2_alter at hm
  refine lv_aload_n hx hb dX2_alter_0 rfl (lv_at hl 0 rfl) ?_
  refine lv_iload_n hx hb dX2_alter_1 rfl (lv_at hl 1 rfl) ?_
  obtain ⟨q_1, hq_1, hm⟩ := ob hm
  refine zc_i (zr_V [.int a1] [] ⟨hx, hb, hml, hown, hts⟩ (ctX2_has l D cy ad σ  a1 q_1 hq_1 _) (cwV 1 hts gX2_alter_X2_has rfl rfl rfl (by decide +kernel) ⟨Nat.le_of_ble_eq_true rfl, Nat.le_of_ble_eq_true rfl⟩) hK hP hD 0 cw_0 rfl rfl rfl hl.1 rfl (Nat.le_of_ble_eq_true rfl) dX2_alter_2 ⟨Nat.zero_le _, Nat.zero_le _⟩) hD hS hA (fun H locs hP hD hS => ?_)
  refine lv_if_ne (tgt := 10) hx hb dX2_alter_5 (by decide) (fun c_2 => ?_) (fun c_2 => ?_)
  · have hm := ifn c_2 hm
    refine lv_aload_n hx hb dX2_alter_10 rfl (lv_at hl 0 rfl) ?_
    refine va_get (D := D) (ci := 2) (v := .ref (ad 1 0)) (C := RX2) (T := TX2) (N := 9) hx hb hts iwX2_alter_X2 hown hK.1 hP 0 cw_0 rfl 0 (by decide) (hts _ lkX2_alter_11) (fun _ h9 => h9) rfl dX2_alter_11 ?_
    refine lv_iload_n hx hb dX2_alter_14 rfl (lv_at hl 1 rfl) ?_
    obtain ⟨h_3, hm⟩ := gd_some hm
    obtain ⟨h_4, hm⟩ := gd_some hm
    have h_4 := lt_of_dec h_4
    refine z_ald (f := fun i => ad 13 (gP σ i)) hx hb hK.1 hP 1 2 cw_1 rfl rfl (inb_vp h_3) dX2_alter_15 ?_
    refine lv_astore (lv' := [(4, .ref (ad 13 (gP σ (Int32.toNatClampNeg a1)))), (0, .ref (ad 0 0)), (1, .int a1), (2, .int a2), (3, .int a3)]) hx hb dX2_alter_16 hl (by decide) rfl (fun ls hl => ?_)
    refine lv_iload_n hx hb dX2_alter_18 rfl (lv_at hl 3 rfl) ?_
    by_cases c_5 : a2 = (0 : Int32)
    · have hm := ifp c_5 hm
      refine lv_tableIn (off := 25) (tgt := 44) hx hb dX2_alter_19 (by rw [c_5]; decide) (by rw [c_5]; decide) (by rw [c_5]; decide) (by decide) ?_
      refine lv_aload hx hb dX2_alter_44 (lv_at hl 0 rfl) ?_
      refine lv_iload_n hx hb dX2_alter_46 rfl (lv_at hl 4 rfl) ?_
      obtain ⟨q_6, hq_6, hm⟩ := ob hm
      refine zc_i (zr_V [.int a3] [] ⟨hx, hb, hml, hown, hts⟩ (ctX0_changeSpread l D cy ad σ h_4 (gP σ (Int32.toNatClampNeg a1)) a3 q_6 hq_6 _) (cwV 1 hts gX2_alter_X0_changeSpread rfl rfl rfl (by decide +kernel) ⟨Nat.le_of_ble_eq_true rfl, Nat.le_of_ble_eq_true rfl⟩) hK hP hD (13 + (gP σ (Int32.toNatClampNeg a1))) (cw_13 h_4) rfl rfl rfl hl.1 rfl (Nat.le_of_ble_eq_true rfl) dX2_alter_47 ⟨Nat.zero_le _, Nat.zero_le _⟩) hD hS hA (fun H locs hP hD hS => ?_)
      obtain ⟨h_7, hm⟩ := gd_some hm
      exact z_z hx hb hr hlocks h_7 hm hP hD hS dX2_alter_50
    · have hm := ifn c_5 hm
      by_cases c_8 : a2 = (1 : Int32)
      · have hm := ifp c_8 hm
        refine lv_tableIn (off := 32) (tgt := 51) hx hb dX2_alter_19 (by rw [c_8]; decide) (by rw [c_8]; decide) (by rw [c_8]; decide) (by decide) ?_
        refine lv_aload hx hb dX2_alter_51 (lv_at hl 0 rfl) ?_
        refine lv_iload_n hx hb dX2_alter_53 rfl (lv_at hl 4 rfl) ?_
        obtain ⟨q_9, hq_9, hm⟩ := ob hm
        refine zc_i (zr_V [.int a3] [] ⟨hx, hb, hml, hown, hts⟩ (ctX0_changeStock l D cy ad σ h_4 (gP σ (Int32.toNatClampNeg a1)) a3 q_9 hq_9 _) (cwV 1 hts gX2_alter_X0_changeStock rfl rfl rfl (by decide +kernel) ⟨Nat.le_of_ble_eq_true rfl, Nat.le_of_ble_eq_true rfl⟩) hK hP hD (13 + (gP σ (Int32.toNatClampNeg a1))) (cw_13 h_4) rfl rfl rfl hl.1 rfl (Nat.le_of_ble_eq_true rfl) dX2_alter_54 ⟨Nat.zero_le _, Nat.zero_le _⟩) hD hS hA (fun H locs hP hD hS => ?_)
        obtain ⟨h_10, hm⟩ := gd_some hm
        exact z_z hx hb hr hlocks h_10 hm hP hD hS dX2_alter_57
      · have hm := ifn c_8 hm
        by_cases c_11 : a2 = (2 : Int32)
        · have hm := ifp c_11 hm
          refine lv_tableIn (off := 39) (tgt := 58) hx hb dX2_alter_19 (by rw [c_11]; decide) (by rw [c_11]; decide) (by rw [c_11]; decide) (by decide) ?_
          refine lv_aload hx hb dX2_alter_58 (lv_at hl 0 rfl) ?_
          refine lv_iload_n hx hb dX2_alter_60 rfl (lv_at hl 4 rfl) ?_
          obtain ⟨q_12, hq_12, hm⟩ := ob hm
          refine zc_i (zr_V [.int a3] [] ⟨hx, hb, hml, hown, hts⟩ (ctX0_changeBarred l D cy ad σ h_4 (gP σ (Int32.toNatClampNeg a1)) a3 q_12 hq_12 _) (cwV 1 hts gX2_alter_X0_changeBarred rfl rfl rfl (by decide +kernel) ⟨Nat.le_of_ble_eq_true rfl, Nat.le_of_ble_eq_true rfl⟩) hK hP hD (13 + (gP σ (Int32.toNatClampNeg a1))) (cw_13 h_4) rfl rfl rfl hl.1 rfl (Nat.le_of_ble_eq_true rfl) dX2_alter_61 ⟨Nat.zero_le _, Nat.zero_le _⟩) hD hS hA (fun H locs hP hD hS => ?_)
          obtain ⟨h_13, hm⟩ := gd_some hm
          exact z_z hx hb hr hlocks h_13 hm hP hD hS dX2_alter_64
        · have hm := ifn c_11 hm
          refine lv_tableOut (tgt := 65) hx hb dX2_alter_19 (sw_out (fun i h1 h2 q => ?_)) (by decide) ?_
          · have n_0 := lv_neT (a := 0) c_5 rfl
            have n_1 := lv_neT (a := 1) c_8 rfl
            have n_2 := lv_neT (a := 2) c_11 rfl
            omega
          refine lv_iconst (v := 0) hx hb dX2_alter_65 (by decide) ?_
          exact z_z hx hb hr hlocks (by decide) hm hP hD hS dX2_alter_66
  · have hm := ifp c_2 hm
    refine lv_iconst (v := 0) hx hb dX2_alter_8 (by decide) ?_
    exact z_z hx hb hr hlocks (by decide) hm hP hD hS dX2_alter_9
abbrev rmX2_isEligible : Room := { frames := 1, cells := 0, slots := 0, locals := 22 }
theorem lkX2_isEligible_11 : Cond.fieldLink RX2 11 "DeliveryBasket" "bonds" "[LDeliveryBasket$Bond;" ∈ wsX2_isEligible := by decide +kernel
theorem iwX2_isEligible_X2 : ∀ w ∈ wsX20, w ∈ wsX2_isEligible := fun _ h => List.mem_cons_of_mem _ (List.mem_append_left _ (List.mem_append_right _ h))
theorem lkX2_isEligible_101 : Cond.fieldLink RX2 101 "DeliveryBasket$Bond" "barred" "I" ∈ wsX2_isEligible := by decide +kernel
theorem iwX2_isEligible_X0 : ∀ w ∈ wsX00, w ∈ wsX2_isEligible := fun _ h => List.mem_cons_of_mem _ (List.mem_append_right _ h)
theorem lkX2_isEligible_89 : Cond.fieldLink RX2 89 "DeliveryBasket$Bond" "periods" "I" ∈ wsX2_isEligible := by decide +kernel
theorem lkX2_isEligible_19 : Cond.fieldLink RX2 19 "DeliveryBasket" "least" "I" ∈ wsX2_isEligible := by decide +kernel
theorem lkX2_isEligible_22 : Cond.fieldLink RX2 22 "DeliveryBasket" "most" "I" ∈ wsX2_isEligible := by decide +kernel
theorem lkX2_isEligible_104 : Cond.fieldLink RX2 104 "DeliveryBasket$Bond" "factor" "I" ∈ wsX2_isEligible := by decide +kernel
def mX2_isEligible (σ : ST) (a1 : Int32) : Option (Int32) := gd (inb a1 8) (gd (decide ((gP σ (Int32.toNatClampNeg a1)) < 8)) (if (gI σ 2 (gP σ (Int32.toNatClampNeg a1)) 6) = (0 : Int32) then ((mX2_within (gI σ 2 (gP σ (Int32.toNatClampNeg a1)) 2) (gI σ 0 0 3) (gI σ 0 0 4)).bind fun q_4 => if q_4 = (0 : Int32) then (some (0 : Int32)) else (if (gI σ 2 (gP σ (Int32.toNatClampNeg a1)) 7) ≤ (0 : Int32) then (some (0 : Int32)) else (some (1 : Int32)))) else (some (0 : Int32))))
set_option maxHeartbeats 4000000 in
set_option maxRecDepth 100000 in
theorem ctX2_isEligible (l : Launch) (D : va_G) (cy : Nat → ClassId) (ad : Nat → Nat → Nat) (σ : ST) (a1 : Int32) (q : Int32) (hm : mX2_isEligible σ a1 = some q) : zMi l yX2_isEligible wsX2_isEligible rmX2_isEligible D cy [.ref (ad 0 0), .int a1] (cw cy ad σ) q (cw cy ad σ) := by
  intro sz
  refine Met.ofW (cc := cX2_isEligible) (maxL := 3) (ret := (some .boolean)) (by decide) rfl ?_
  intro p e s m args below meth c s₁ B hml hv
  obtain ⟨rfl, hsz, hP, hK, hD0⟩ := hv
  have hx := B.exec
  have hb := B.bytes
  have hr := B.returns
  have hts := atoms_spec (ws := wsX2_isEligible) B.pre
  have hown : s.vm.findClass RX2 = some m.cls := findClass_of_methodNamed B.named
  have hlocks := B.notSynchronized
  subst hsz
  have hD := hD0.self (sz := s.heap.size)
  generalize hAe : va_A (cw cy ad σ) s.heap.size = A at hD ⊢
  have hA : ∀ q : Nat, s.heap.size ≤ q → A q := fun q h => by rw [← hAe]; exact Or.inr h
  have hS : va_S A s.heap s.heap [] := va_S.rf
  have C : Cx p s m _ meth c cX2_isEligible 3 (some .boolean) RX2 wsX2_isEligible D cy A := ⟨hx, hb, hml, hown, hts, hr, hlocks, hK, hA⟩
  have hl := lv_entry ([.ref (ad 0 0), .int a1]) (n := 3) (Nat.le_of_ble_eq_true rfl)
  rw [lg_entry_eq]
  generalize (lg_sl ([.ref (ad 0 0), .int a1]) ++ List.replicate (3 - (lg_sl ([.ref (ad 0 0), .int a1])).length) Slot.unset).toArray = ls at hl ⊢
  have hl : lv_has ls 3 [(0, .ref (ad 0 0)), (1, .int a1)] := hl
  unfold mX2_isEligible at hm
  refine lv_aload_n hx hb dX2_isEligible_0 rfl (lv_at hl 0 rfl) ?_
  refine va_get (D := D) (ci := 2) (v := .ref (ad 1 0)) (C := RX2) (T := TX2) (N := 9) hx hb hts iwX2_isEligible_X2 hown hK.1 hP 0 cw_0 rfl 0 (by decide) (hts _ lkX2_isEligible_11) (fun _ h9 => h9) rfl dX2_isEligible_1 ?_
  refine lv_iload_n hx hb dX2_isEligible_4 rfl (lv_at hl 1 rfl) ?_
  obtain ⟨h_1, hm⟩ := gd_some hm
  obtain ⟨h_2, hm⟩ := gd_some hm
  have h_2 := lt_of_dec h_2
  refine z_ald (f := fun i => ad 13 (gP σ i)) hx hb hK.1 hP 1 2 cw_1 rfl rfl (inb_vp h_1) dX2_isEligible_5 ?_
  refine lv_astore_n (lv' := [(2, .ref (ad 13 (gP σ (Int32.toNatClampNeg a1)))), (0, .ref (ad 0 0)), (1, .int a1)]) hx hb dX2_isEligible_6 rfl hl (by decide) rfl (fun ls hl => ?_)
  refine lv_aload_n hx hb dX2_isEligible_7 rfl (lv_at hl 0 rfl) ?_
  refine va_get (D := D) (ci := 0) (v := .int (gI σ 2 (gP σ (Int32.toNatClampNeg a1)) 6)) (C := RX0) (T := TX0) (N := 10) hx hb hts iwX2_isEligible_X0 hown hK.1 hP (13 + (gP σ (Int32.toNatClampNeg a1))) (cw_13 h_2) rfl 6 (by decide) (hts _ lkX2_isEligible_101) (fun _ h9 => h9) rfl dX2_isEligible_8 ?_
  refine lv_if_ne (tgt := 43) hx hb dX2_isEligible_11 (by decide) (fun c_3 => ?_) (fun c_3 => ?_)
  · have hm := ifn c_3 hm
    refine lv_iconst (v := 0) hx hb dX2_isEligible_43 (by decide) ?_
    exact z_pz hx hb hr hlocks (by decide) hm hP hD hS dX2_isEligible_44
  · have hm := ifp c_3 hm
    refine lv_aload_n hx hb dX2_isEligible_14 rfl (lv_at hl 0 rfl) ?_
    refine va_get (D := D) (ci := 0) (v := .int (gI σ 2 (gP σ (Int32.toNatClampNeg a1)) 2)) (C := RX0) (T := TX0) (N := 10) hx hb hts iwX2_isEligible_X0 hown hK.1 hP (13 + (gP σ (Int32.toNatClampNeg a1))) (cw_13 h_2) rfl 2 (by decide) (hts _ lkX2_isEligible_89) (fun _ h9 => h9) rfl dX2_isEligible_15 ?_
    refine lv_aload_n hx hb dX2_isEligible_18 rfl (lv_at hl 1 rfl) ?_
    refine va_get (D := D) (ci := 2) (v := .int (gI σ 0 0 3)) (C := RX2) (T := TX2) (N := 9) hx hb hts iwX2_isEligible_X2 hown hK.1 hP 0 cw_0 rfl 3 (by decide) (hts _ lkX2_isEligible_19) (fun _ h9 => h9) rfl dX2_isEligible_19 ?_
    refine lv_aload_n hx hb dX2_isEligible_22 rfl (lv_at hl 1 rfl) ?_
    refine va_get (D := D) (ci := 2) (v := .int (gI σ 0 0 4)) (C := RX2) (T := TX2) (N := 9) hx hb hts iwX2_isEligible_X2 hown hK.1 hP 0 cw_0 rfl 4 (by decide) (hts _ lkX2_isEligible_22) (fun _ h9 => h9) rfl dX2_isEligible_23 ?_
    obtain ⟨q_4, hq_4, hm⟩ := ob hm
    refine zc_i (zr_S [.int (gI σ 2 (gP σ (Int32.toNatClampNeg a1)) 2), .int (gI σ 0 0 3), .int (gI σ 0 0 4)] [] ⟨hx, hb, hml, hown, hts⟩ (ctX2_within l D cy (cw cy ad σ)  (gI σ 2 (gP σ (Int32.toNatClampNeg a1)) 2) (gI σ 0 0 3) (gI σ 0 0 4) q_4 hq_4 _) (va_cwS 3 hts gX2_isEligible_X2_within rfl rfl rfl (by decide +kernel) ⟨Nat.le_of_ble_eq_true rfl, Nat.le_of_ble_eq_true rfl⟩) hK hP hD rfl hl.1 rfl (Nat.le_of_ble_eq_true rfl) dX2_isEligible_26 ⟨Nat.zero_le _, Nat.zero_le _⟩) hD hS hA (fun H locs hP hD hS => ?_)
    refine lv_if_eq (tgt := 43) hx hb dX2_isEligible_29 (by decide) (fun c_5 => ?_) (fun c_5 => ?_)
    · have hm := ifp c_5 hm
      refine lv_iconst (v := 0) hx hb dX2_isEligible_43 (by decide) ?_
      exact z_pz hx hb hr hlocks (by decide) hm hP hD hS dX2_isEligible_44
    · have hm := ifn c_5 hm
      refine lv_aload_n hx hb dX2_isEligible_32 rfl (lv_at hl 0 rfl) ?_
      refine va_get (D := D) (ci := 0) (v := .int (gI σ 2 (gP σ (Int32.toNatClampNeg a1)) 7)) (C := RX0) (T := TX0) (N := 10) hx hb hts iwX2_isEligible_X0 hown hK.1 hP (13 + (gP σ (Int32.toNatClampNeg a1))) (cw_13 h_2) rfl 7 (by decide) (hts _ lkX2_isEligible_104) (fun _ h9 => h9) rfl dX2_isEligible_33 ?_
      refine lv_if_le (tgt := 43) hx hb dX2_isEligible_36 (by decide) (fun c_6 => ?_) (fun c_6 => ?_)
      · have hm := ifp c_6 hm
        refine lv_iconst (v := 0) hx hb dX2_isEligible_43 (by decide) ?_
        exact z_pz hx hb hr hlocks (by decide) hm hP hD hS dX2_isEligible_44
      · have hm := ifn c_6 hm
        refine lv_iconst (v := 1) hx hb dX2_isEligible_39 (by decide) ?_
        refine lv_goto (tgt := 44) hx hb dX2_isEligible_40 (by decide) ?_
        exact z_pz hx hb hr hlocks (by decide) hm hP hD hS dX2_isEligible_44
abbrev rmX2_flow : Room := { frames := 2, cells := 0, slots := 0, locals := 43 }
theorem lkX2_flow_11 : Cond.fieldLink RX2 11 "DeliveryBasket" "bonds" "[LDeliveryBasket$Bond;" ∈ wsX2_flow := by decide +kernel
theorem iwX2_flow_X2 : ∀ w ∈ wsX20, w ∈ wsX2_flow := fun _ h => List.mem_cons_of_mem _ (List.mem_append_left _ (List.mem_append_right _ h))
theorem lkX2_flow_89 : Cond.fieldLink RX2 89 "DeliveryBasket$Bond" "periods" "I" ∈ wsX2_flow := by decide +kernel
theorem iwX2_flow_X0 : ∀ w ∈ wsX00, w ∈ wsX2_flow := fun _ h => List.mem_cons_of_mem _ (List.mem_append_right _ h)
theorem lkX2_flow_112 : Cond.fieldLink RX2 112 "DeliveryBasket$Bond" "flows" "[I" ∈ wsX2_flow := by decide +kernel
def mX2_flow (σ : ST) (a1 : Int32) (a2 : Int32) : Option (Int32) := (mX2_has σ a1).bind fun q_1 => if q_1 = (0 : Int32) then (some (-1 : Int32)) else (gd (inb a1 8) (gd (decide ((gP σ (Int32.toNatClampNeg a1)) < 8)) ((mX2_within a2 (1 : Int32) (gI σ 2 (gP σ (Int32.toNatClampNeg a1)) 2)).bind fun q_5 => if q_5 = (0 : Int32) then (some (-1 : Int32)) else (gd (inb a1 8) (gd (decide ((gP σ (Int32.toNatClampNeg a1)) < 8)) (gd (inb a2 41) (some (gI σ 3 (gP σ (Int32.toNatClampNeg a1)) (Int32.toNatClampNeg a2)))))))))
set_option maxHeartbeats 4000000 in
set_option maxRecDepth 100000 in
theorem ctX2_flow (l : Launch) (D : va_G) (cy : Nat → ClassId) (ad : Nat → Nat → Nat) (σ : ST) (a1 : Int32) (a2 : Int32) (q : Int32) (hm : mX2_flow σ a1 a2 = some q) : zMi l yX2_flow wsX2_flow rmX2_flow D cy [.ref (ad 0 0), .int a1, .int a2] (cw cy ad σ) q (cw cy ad σ) := by
  intro sz
  refine Met.ofW (cc := cX2_flow) (maxL := 3) (ret := (some .int)) (by decide) rfl ?_
  intro p e s m args below meth c s₁ B hml hv
  obtain ⟨rfl, hsz, hP, hK, hD0⟩ := hv
  have hx := B.exec
  have hb := B.bytes
  have hr := B.returns
  have hts := atoms_spec (ws := wsX2_flow) B.pre
  have hown : s.vm.findClass RX2 = some m.cls := findClass_of_methodNamed B.named
  have hlocks := B.notSynchronized
  subst hsz
  have hD := hD0.self (sz := s.heap.size)
  generalize hAe : va_A (cw cy ad σ) s.heap.size = A at hD ⊢
  have hA : ∀ q : Nat, s.heap.size ≤ q → A q := fun q h => by rw [← hAe]; exact Or.inr h
  have hS : va_S A s.heap s.heap [] := va_S.rf
  have C : Cx p s m _ meth c cX2_flow 3 (some .int) RX2 wsX2_flow D cy A := ⟨hx, hb, hml, hown, hts, hr, hlocks, hK, hA⟩
  have hl := lv_entry ([.ref (ad 0 0), .int a1, .int a2]) (n := 3) (Nat.le_of_ble_eq_true rfl)
  rw [lg_entry_eq]
  generalize (lg_sl ([.ref (ad 0 0), .int a1, .int a2]) ++ List.replicate (3 - (lg_sl ([.ref (ad 0 0), .int a1, .int a2])).length) Slot.unset).toArray = ls at hl ⊢
  have hl : lv_has ls 3 [(0, .ref (ad 0 0)), (1, .int a1), (2, .int a2)] := hl
  unfold mX2_flow at hm
  refine lv_aload_n hx hb dX2_flow_0 rfl (lv_at hl 0 rfl) ?_
  refine lv_iload_n hx hb dX2_flow_1 rfl (lv_at hl 1 rfl) ?_
  obtain ⟨q_1, hq_1, hm⟩ := ob hm
  refine zc_i (zr_V [.int a1] [] ⟨hx, hb, hml, hown, hts⟩ (ctX2_has l D cy ad σ  a1 q_1 hq_1 _) (cwV 1 hts gX2_flow_X2_has rfl rfl rfl (by decide +kernel) ⟨Nat.le_of_ble_eq_true rfl, Nat.le_of_ble_eq_true rfl⟩) hK hP hD 0 cw_0 rfl rfl rfl hl.1 rfl (Nat.le_of_ble_eq_true rfl) dX2_flow_2 ⟨Nat.zero_le _, Nat.zero_le _⟩) hD hS hA (fun H locs hP hD hS => ?_)
  refine lv_if_eq (tgt := 25) hx hb dX2_flow_5 (by decide) (fun c_2 => ?_) (fun c_2 => ?_)
  · have hm := ifp c_2 hm
    refine lv_iconst (v := -1) hx hb dX2_flow_25 (by decide) ?_
    exact z_pi hx hb hr hlocks hm hP hD hS dX2_flow_26
  · have hm := ifn c_2 hm
    refine lv_iload_n hx hb dX2_flow_8 rfl (lv_at hl 2 rfl) ?_
    refine lv_iconst (v := 1) hx hb dX2_flow_9 (by decide) ?_
    refine lv_aload_n hx hb dX2_flow_10 rfl (lv_at hl 0 rfl) ?_
    refine va_get (D := D) (ci := 2) (v := .ref (ad 1 0)) (C := RX2) (T := TX2) (N := 9) hx hb hts iwX2_flow_X2 hown hK.1 hP 0 cw_0 rfl 0 (by decide) (hts _ lkX2_flow_11) (fun _ h9 => h9) rfl dX2_flow_11 ?_
    refine lv_iload_n hx hb dX2_flow_14 rfl (lv_at hl 1 rfl) ?_
    obtain ⟨h_3, hm⟩ := gd_some hm
    obtain ⟨h_4, hm⟩ := gd_some hm
    have h_4 := lt_of_dec h_4
    refine z_ald (f := fun i => ad 13 (gP σ i)) hx hb hK.1 hP 1 2 cw_1 rfl rfl (inb_vp h_3) dX2_flow_15 ?_
    refine va_get (D := D) (ci := 0) (v := .int (gI σ 2 (gP σ (Int32.toNatClampNeg a1)) 2)) (C := RX0) (T := TX0) (N := 10) hx hb hts iwX2_flow_X0 hown hK.1 hP (13 + (gP σ (Int32.toNatClampNeg a1))) (cw_13 h_4) rfl 2 (by decide) (hts _ lkX2_flow_89) (fun _ h9 => h9) rfl dX2_flow_16 ?_
    obtain ⟨q_5, hq_5, hm⟩ := ob hm
    refine zc_i (zr_S [.int a2, .int (1 : Int32), .int (gI σ 2 (gP σ (Int32.toNatClampNeg a1)) 2)] [] ⟨hx, hb, hml, hown, hts⟩ (ctX2_within l D cy (cw cy ad σ)  a2 (1 : Int32) (gI σ 2 (gP σ (Int32.toNatClampNeg a1)) 2) q_5 hq_5 _) (va_cwS 3 hts gX2_flow_X2_within rfl rfl rfl (by decide +kernel) ⟨Nat.le_of_ble_eq_true rfl, Nat.le_of_ble_eq_true rfl⟩) hK hP hD rfl hl.1 rfl (Nat.le_of_ble_eq_true rfl) dX2_flow_19 ⟨Nat.zero_le _, Nat.zero_le _⟩) hD hS hA (fun H locs hP hD hS => ?_)
    refine lv_if_ne (tgt := 27) hx hb dX2_flow_22 (by decide) (fun c_6 => ?_) (fun c_6 => ?_)
    · have hm := ifn c_6 hm
      refine lv_aload_n hx hb dX2_flow_27 rfl (lv_at hl 0 rfl) ?_
      refine va_get (D := D) (ci := 2) (v := .ref (ad 1 0)) (C := RX2) (T := TX2) (N := 9) hx hb hts iwX2_flow_X2 hown hK.1 hP 0 cw_0 rfl 0 (by decide) (hts _ lkX2_flow_11) (fun _ h9 => h9) rfl dX2_flow_28 ?_
      refine lv_iload_n hx hb dX2_flow_31 rfl (lv_at hl 1 rfl) ?_
      obtain ⟨h_7, hm⟩ := gd_some hm
      obtain ⟨h_8, hm⟩ := gd_some hm
      have h_8 := lt_of_dec h_8
      refine z_ald (f := fun i => ad 13 (gP σ i)) hx hb hK.1 hP 1 2 cw_1 rfl rfl (inb_vp h_7) dX2_flow_32 ?_
      refine va_get (D := D) (ci := 0) (v := .ref (ad 14 (gP σ (Int32.toNatClampNeg a1)))) (C := RX0) (T := TX0) (N := 10) hx hb hts iwX2_flow_X0 hown hK.1 hP (13 + (gP σ (Int32.toNatClampNeg a1))) (cw_13 h_8) rfl 8 (by decide) (hts _ lkX2_flow_112) (fun _ h9 => h9) rfl dX2_flow_33 ?_
      refine lv_iload_n hx hb dX2_flow_36 rfl (lv_at hl 2 rfl) ?_
      obtain ⟨h_9, hm⟩ := gd_some hm
      refine va_iald hx hb hK.1 hP (13 + (8 + (gP σ (Int32.toNatClampNeg a1)))) 0 (cw_14 h_8) rfl (inb_vp h_9) dX2_flow_37 ?_
      exact z_pi hx hb hr hlocks hm hP hD hS dX2_flow_38
    · have hm := ifp c_6 hm
      refine lv_iconst (v := -1) hx hb dX2_flow_25 (by decide) ?_
      exact z_pi hx hb hr hlocks hm hP hD hS dX2_flow_26
abbrev rmX2_price : Room := { frames := 3, cells := 0, slots := 0, locals := 67 }
theorem lkX2_price_11 : Cond.fieldLink RX2 11 "DeliveryBasket" "bonds" "[LDeliveryBasket$Bond;" ∈ wsX2_price := by decide +kernel
theorem iwX2_price_X2 : ∀ w ∈ wsX20, w ∈ wsX2_price := fun _ h => List.mem_cons_of_mem _ (List.mem_append_left _ (List.mem_append_right _ h))
def mX2_price (σ : ST) (a1 : Int32) (a2 : Int32) : Option (Int32 × ST) := (mX2_has σ a1).bind fun q_1 => if q_1 = (0 : Int32) then (some ((-1 : Int32), σ)) else ((mX2_isRate a2).bind fun q_3 => if q_3 = (0 : Int32) then (some ((-1 : Int32), σ)) else (gd (inb a1 8) (gd (decide ((gP σ (Int32.toNatClampNeg a1)) < 8)) ((mX0_priceAt σ (gP σ (Int32.toNatClampNeg a1)) a2).bind fun q_7 => some (q_7.1, q_7.2)))))
set_option maxHeartbeats 4000000 in
set_option maxRecDepth 100000 in
theorem ctX2_price (l : Launch) (D : va_G) (cy : Nat → ClassId) (ad : Nat → Nat → Nat) (σ : ST) (a1 : Int32) (a2 : Int32) (q : Int32 × ST) (hm : mX2_price σ a1 a2 = some q) : zMi l yX2_price wsX2_price rmX2_price D cy [.ref (ad 0 0), .int a1, .int a2] (cw cy ad σ) q.1 (cw cy ad q.2) := by
  intro sz
  refine Met.ofW (cc := cX2_price) (maxL := 3) (ret := (some .int)) (by decide) rfl ?_
  intro p e s m args below meth c s₁ B hml hv
  obtain ⟨rfl, hsz, hP, hK, hD0⟩ := hv
  have hx := B.exec
  have hb := B.bytes
  have hr := B.returns
  have hts := atoms_spec (ws := wsX2_price) B.pre
  have hown : s.vm.findClass RX2 = some m.cls := findClass_of_methodNamed B.named
  have hlocks := B.notSynchronized
  subst hsz
  have hD := hD0.self (sz := s.heap.size)
  generalize hAe : va_A (cw cy ad σ) s.heap.size = A at hD ⊢
  have hA : ∀ q : Nat, s.heap.size ≤ q → A q := fun q h => by rw [← hAe]; exact Or.inr h
  have hS : va_S A s.heap s.heap [] := va_S.rf
  have C : Cx p s m _ meth c cX2_price 3 (some .int) RX2 wsX2_price D cy A := ⟨hx, hb, hml, hown, hts, hr, hlocks, hK, hA⟩
  have hl := lv_entry ([.ref (ad 0 0), .int a1, .int a2]) (n := 3) (Nat.le_of_ble_eq_true rfl)
  rw [lg_entry_eq]
  generalize (lg_sl ([.ref (ad 0 0), .int a1, .int a2]) ++ List.replicate (3 - (lg_sl ([.ref (ad 0 0), .int a1, .int a2])).length) Slot.unset).toArray = ls at hl ⊢
  have hl : lv_has ls 3 [(0, .ref (ad 0 0)), (1, .int a1), (2, .int a2)] := hl
  unfold mX2_price at hm
  refine lv_aload_n hx hb dX2_price_0 rfl (lv_at hl 0 rfl) ?_
  refine lv_iload_n hx hb dX2_price_1 rfl (lv_at hl 1 rfl) ?_
  obtain ⟨q_1, hq_1, hm⟩ := ob hm
  refine zc_i (zr_V [.int a1] [] ⟨hx, hb, hml, hown, hts⟩ (ctX2_has l D cy ad σ  a1 q_1 hq_1 _) (cwV 1 hts gX2_price_X2_has rfl rfl rfl (by decide +kernel) ⟨Nat.le_of_ble_eq_true rfl, Nat.le_of_ble_eq_true rfl⟩) hK hP hD 0 cw_0 rfl rfl rfl hl.1 rfl (Nat.le_of_ble_eq_true rfl) dX2_price_2 ⟨Nat.zero_le _, Nat.zero_le _⟩) hD hS hA (fun H locs hP hD hS => ?_)
  refine lv_if_eq (tgt := 15) hx hb dX2_price_5 (by decide) (fun c_2 => ?_) (fun c_2 => ?_)
  · have hm := ifp c_2 hm
    refine lv_iconst (v := -1) hx hb dX2_price_15 (by decide) ?_
    exact z_i hx hb hr hlocks hm hP hD hS dX2_price_16
  · have hm := ifn c_2 hm
    refine lv_iload_n hx hb dX2_price_8 rfl (lv_at hl 2 rfl) ?_
    obtain ⟨q_3, hq_3, hm⟩ := ob hm
    refine zc_i (zr_S [.int a2] [] ⟨hx, hb, hml, hown, hts⟩ (ctX2_isRate l D cy (cw cy ad σ)  a2 q_3 hq_3 _) (va_cwS 1 hts gX2_price_X2_isRate rfl rfl rfl (by decide +kernel) ⟨Nat.le_of_ble_eq_true rfl, Nat.le_of_ble_eq_true rfl⟩) hK hP hD rfl hl.1 rfl (Nat.le_of_ble_eq_true rfl) dX2_price_9 ⟨Nat.zero_le _, Nat.zero_le _⟩) hD hS hA (fun H locs hP hD hS => ?_)
    refine lv_if_ne (tgt := 17) hx hb dX2_price_12 (by decide) (fun c_4 => ?_) (fun c_4 => ?_)
    · have hm := ifn c_4 hm
      refine lv_aload_n hx hb dX2_price_17 rfl (lv_at hl 0 rfl) ?_
      refine va_get (D := D) (ci := 2) (v := .ref (ad 1 0)) (C := RX2) (T := TX2) (N := 9) hx hb hts iwX2_price_X2 hown hK.1 hP 0 cw_0 rfl 0 (by decide) (hts _ lkX2_price_11) (fun _ h9 => h9) rfl dX2_price_18 ?_
      refine lv_iload_n hx hb dX2_price_21 rfl (lv_at hl 1 rfl) ?_
      obtain ⟨h_5, hm⟩ := gd_some hm
      obtain ⟨h_6, hm⟩ := gd_some hm
      have h_6 := lt_of_dec h_6
      refine z_ald (f := fun i => ad 13 (gP σ i)) hx hb hK.1 hP 1 2 cw_1 rfl rfl (inb_vp h_5) dX2_price_22 ?_
      refine lv_iload_n hx hb dX2_price_23 rfl (lv_at hl 2 rfl) ?_
      obtain ⟨q_7, hq_7, hm⟩ := ob hm
      refine zc_i (zr_V [.int a2] [] ⟨hx, hb, hml, hown, hts⟩ (ctX0_priceAt l D cy ad σ h_6 (gP σ (Int32.toNatClampNeg a1)) a2 q_7 hq_7 _) (cwV 1 hts gX2_price_X0_priceAt rfl rfl rfl (by decide +kernel) ⟨Nat.le_of_ble_eq_true rfl, Nat.le_of_ble_eq_true rfl⟩) hK hP hD (13 + (gP σ (Int32.toNatClampNeg a1))) (cw_13 h_6) rfl rfl rfl hl.1 rfl (Nat.le_of_ble_eq_true rfl) dX2_price_24 ⟨Nat.zero_le _, Nat.zero_le _⟩) hD hS hA (fun H locs hP hD hS => ?_)
      exact z_i hx hb hr hlocks hm hP hD hS dX2_price_27
    · have hm := ifp c_4 hm
      refine lv_iconst (v := -1) hx hb dX2_price_15 (by decide) ?_
      exact z_i hx hb hr hlocks hm hP hD hS dX2_price_16
abbrev rmX2_rateOf : Room := { frames := 3, cells := 0, slots := 0, locals := 67 }
theorem lkX2_rateOf_11 : Cond.fieldLink RX2 11 "DeliveryBasket" "bonds" "[LDeliveryBasket$Bond;" ∈ wsX2_rateOf := by decide +kernel
theorem iwX2_rateOf_X2 : ∀ w ∈ wsX20, w ∈ wsX2_rateOf := fun _ h => List.mem_cons_of_mem _ (List.mem_append_left _ (List.mem_append_right _ h))
def bkX2_rateOf_17  (rec : ST × Int32 × Int32 × Int32 × Int32 → Option (Int32 × ST)) (σ : ST) (x1 : Int32) (x2 : Int32) (x3 : Int32) (x4 : Int32) : Option (Int32 × ST) := if x4 ≤ (0 : Int32) then (if x3 = (3000 : Int32) then (some ((-1 : Int32), σ)) else (some ((x3 + (1 : Int32)), σ))) else (if (3000 : Int32) < (x3 + x4) then (rec (σ, x1, x2, x3, (x4 / (2 : Int32)))) else (gd (inb x1 8) (gd (decide ((gP σ (Int32.toNatClampNeg x1)) < 8)) ((mX0_priceAt σ (gP σ (Int32.toNatClampNeg x1)) (x3 + x4)).bind fun q_6 => if q_6.1 ≤ x2 then (rec (q_6.2, x1, x2, x3, (x4 / (2 : Int32)))) else (rec (q_6.2, x1, x2, (x3 + x4), (x4 / (2 : Int32))))))))
def kX2_rateOf_17  (n : Nat) (a : ST × Int32 × Int32 × Int32 × Int32) : Option (Int32 × ST) := fx (fun rec a => bkX2_rateOf_17  rec a.1 a.2.1 a.2.2.1 a.2.2.2.1 a.2.2.2.2) n a
set_option maxHeartbeats 4000000 in
set_option maxRecDepth 100000 in
theorem kX2_rateOf_17_ok {p : Program} {l : Launch} {e : Env} {s : State} {m : MethodId} {args : Array Value} {below : List Frame} {meth : Method} {c : Code} {D : va_G} {cy : Nat → ClassId} {ad : Nat → Nat → Nat} {A : Nat → Prop} (C : Cx p s m args meth c cX2_rateOf 5 (some .int) RX2 wsX2_rateOf D cy A) (q : Int32 × ST) : ∀ (n : Nat) (σ : ST) (x1 : Int32) (x2 : Int32) (x3 : Int32) (x4 : Int32), ∀ (H : Heap) (locs : List Loc), va_P D vwCl (cw cy ad σ) H → va_D A (cw cy ad σ) → va_S A s.heap H locs → ∀ ls : Array Slot, lv_has ls 5 [(0, .ref (ad 0 0)), (1, .int x1), (2, .int x2), (3, .int x3), (4, .int x4)] → kX2_rateOf_17 n (σ, x1, x2, x3, x4) = some q → W p l e rmX2_rateOf s m args below meth c H locs 0 0 (MQ below (zQi D (cw cy ad q.2) A q.1) args s 0 0 A) (F0 m 17 ls []) := by
  obtain ⟨hx, hb, hml, hown, hts, hr, hlocks, hK, hA⟩ := id C
  intro n
  induction n with
  | zero => intro σ x1 x2 x3 x4 H locs hP hD hS ls hl hm; cases hm
  | succ n ih =>
    intro σ x1 x2 x3 x4 H locs hP hD hS ls hl hm
    have hm : bkX2_rateOf_17  (kX2_rateOf_17 n) σ x1 x2 x3 x4 = some q := hm
    unfold bkX2_rateOf_17 at hm
    refine lv_iload hx hb dX2_rateOf_17 (lv_at hl 4 rfl) ?_
    refine lv_if_le (tgt := 63) hx hb dX2_rateOf_19 (by decide) (fun c_1 => ?_) (fun c_1 => ?_)
    · have hm := ifp c_1 hm
      refine lv_iload_n hx hb dX2_rateOf_63 rfl (lv_at hl 3 rfl) ?_
      refine lv_sipush (v := 3000) hx hb dX2_rateOf_64 (by decide) ?_
      refine lv_icmp_ne (tgt := 74) hx hb dX2_rateOf_67 (by decide) (fun c_2 => ?_) (fun c_2 => ?_)
      · have hm := ifn c_2 hm
        refine lv_iload_n hx hb dX2_rateOf_74 rfl (lv_at hl 3 rfl) ?_
        refine lv_iconst (v := 1) hx hb dX2_rateOf_75 (by decide) ?_
        refine lv_iadd hx hb dX2_rateOf_76 ?_
        exact z_i hx hb hr hlocks hm hP hD hS dX2_rateOf_77
      · have hm := ifp c_2 hm
        refine lv_iconst (v := -1) hx hb dX2_rateOf_70 (by decide) ?_
        refine lv_goto (tgt := 77) hx hb dX2_rateOf_71 (by decide) ?_
        exact z_i hx hb hr hlocks hm hP hD hS dX2_rateOf_77
    · have hm := ifn c_1 hm
      refine lv_iload_n hx hb dX2_rateOf_22 rfl (lv_at hl 3 rfl) ?_
      refine lv_iload hx hb dX2_rateOf_23 (lv_at hl 4 rfl) ?_
      refine lv_iadd hx hb dX2_rateOf_25 ?_
      refine lv_sipush (v := 3000) hx hb dX2_rateOf_26 (by decide) ?_
      refine lv_icmp_gt (tgt := 54) hx hb dX2_rateOf_29 (by decide) (fun c_3 => ?_) (fun c_3 => ?_)
      · have hm := ifp c_3 hm
        refine lv_iload hx hb dX2_rateOf_54 (lv_at hl 4 rfl) ?_
        refine lv_iconst (v := 2) hx hb dX2_rateOf_56 (by decide) ?_
        refine lv_idiv hx hb dX2_rateOf_57 (by decide) ?_
        refine lv_istore (lv' := [(4, .int (x4 / (2 : Int32))), (0, .ref (ad 0 0)), (1, .int x1), (2, .int x2), (3, .int x3)]) hx hb dX2_rateOf_58 hl (by decide) rfl (fun ls hl => ?_)
        refine lv_goto (tgt := 17) hx hb dX2_rateOf_60 (by decide) ?_
        exact ih σ x1 x2 x3 (x4 / (2 : Int32)) _ _ hP hD hS _ (lv_sub hl [1, 2, 3, 4, 0] rfl) hm
      · have hm := ifn c_3 hm
        refine lv_aload_n hx hb dX2_rateOf_32 rfl (lv_at hl 0 rfl) ?_
        refine va_get (D := D) (ci := 2) (v := .ref (ad 1 0)) (C := RX2) (T := TX2) (N := 9) hx hb hts iwX2_rateOf_X2 hown hK.1 hP 0 cw_0 rfl 0 (by decide) (hts _ lkX2_rateOf_11) (fun _ h9 => h9) rfl dX2_rateOf_33 ?_
        refine lv_iload_n hx hb dX2_rateOf_36 rfl (lv_at hl 1 rfl) ?_
        obtain ⟨h_4, hm⟩ := gd_some hm
        obtain ⟨h_5, hm⟩ := gd_some hm
        have h_5 := lt_of_dec h_5
        refine z_ald (f := fun i => ad 13 (gP σ i)) hx hb hK.1 hP 1 2 cw_1 rfl rfl (inb_vp h_4) dX2_rateOf_37 ?_
        refine lv_iload_n hx hb dX2_rateOf_38 rfl (lv_at hl 3 rfl) ?_
        refine lv_iload hx hb dX2_rateOf_39 (lv_at hl 4 rfl) ?_
        refine lv_iadd hx hb dX2_rateOf_41 ?_
        obtain ⟨q_6, hq_6, hm⟩ := ob hm
        refine zc_i (zr_V [.int (x3 + x4)] [] ⟨hx, hb, hml, hown, hts⟩ (ctX0_priceAt l D cy ad σ h_5 (gP σ (Int32.toNatClampNeg x1)) (x3 + x4) q_6 hq_6 _) (cwV 1 hts gX2_rateOf_X0_priceAt rfl rfl rfl (by decide +kernel) ⟨Nat.le_of_ble_eq_true rfl, Nat.le_of_ble_eq_true rfl⟩) hK hP hD (13 + (gP σ (Int32.toNatClampNeg x1))) (cw_13 h_5) rfl rfl rfl hl.1 rfl (Nat.le_of_ble_eq_true rfl) dX2_rateOf_42 ⟨Nat.zero_le _, Nat.zero_le _⟩) hD hS hA (fun H locs hP hD hS => ?_)
        refine lv_iload_n hx hb dX2_rateOf_45 rfl (lv_at hl 2 rfl) ?_
        refine lv_icmp_le (tgt := 54) hx hb dX2_rateOf_46 (by decide) (fun c_7 => ?_) (fun c_7 => ?_)
        · have hm := ifp c_7 hm
          refine lv_iload hx hb dX2_rateOf_54 (lv_at hl 4 rfl) ?_
          refine lv_iconst (v := 2) hx hb dX2_rateOf_56 (by decide) ?_
          refine lv_idiv hx hb dX2_rateOf_57 (by decide) ?_
          refine lv_istore (lv' := [(4, .int (x4 / (2 : Int32))), (0, .ref (ad 0 0)), (1, .int x1), (2, .int x2), (3, .int x3)]) hx hb dX2_rateOf_58 hl (by decide) rfl (fun ls hl => ?_)
          refine lv_goto (tgt := 17) hx hb dX2_rateOf_60 (by decide) ?_
          exact ih q_6.2 x1 x2 x3 (x4 / (2 : Int32)) _ _ hP hD hS _ (lv_sub hl [1, 2, 3, 4, 0] rfl) hm
        · have hm := ifn c_7 hm
          refine lv_iload_n hx hb dX2_rateOf_49 rfl (lv_at hl 3 rfl) ?_
          refine lv_iload hx hb dX2_rateOf_50 (lv_at hl 4 rfl) ?_
          refine lv_iadd hx hb dX2_rateOf_52 ?_
          refine lv_istore_n (lv' := [(3, .int (x3 + x4)), (0, .ref (ad 0 0)), (1, .int x1), (2, .int x2), (4, .int x4)]) hx hb dX2_rateOf_53 rfl hl (by decide) rfl (fun ls hl => ?_)
          refine lv_iload hx hb dX2_rateOf_54 (lv_at hl 4 rfl) ?_
          refine lv_iconst (v := 2) hx hb dX2_rateOf_56 (by decide) ?_
          refine lv_idiv hx hb dX2_rateOf_57 (by decide) ?_
          refine lv_istore (lv' := [(4, .int (x4 / (2 : Int32))), (3, .int (x3 + x4)), (0, .ref (ad 0 0)), (1, .int x1), (2, .int x2)]) hx hb dX2_rateOf_58 hl (by decide) rfl (fun ls hl => ?_)
          refine lv_goto (tgt := 17) hx hb dX2_rateOf_60 (by decide) ?_
          exact ih q_6.2 x1 x2 (x3 + x4) (x4 / (2 : Int32)) _ _ hP hD hS _ (lv_sub hl [2, 3, 4, 1, 0] rfl) hm
def mX2_rateOf (σ : ST) (a1 : Int32) (a2 : Int32) : Option (Int32 × ST) := (mX2_has σ a1).bind fun q_8 => if q_8 = (0 : Int32) then (some ((-1 : Int32), σ)) else (kX2_rateOf_17 FU (σ, a1, a2, (-1 : Int32), (2048 : Int32)))
set_option maxHeartbeats 4000000 in
set_option maxRecDepth 100000 in
theorem ctX2_rateOf (l : Launch) (D : va_G) (cy : Nat → ClassId) (ad : Nat → Nat → Nat) (σ : ST) (a1 : Int32) (a2 : Int32) (q : Int32 × ST) (hm : mX2_rateOf σ a1 a2 = some q) : zMi l yX2_rateOf wsX2_rateOf rmX2_rateOf D cy [.ref (ad 0 0), .int a1, .int a2] (cw cy ad σ) q.1 (cw cy ad q.2) := by
  intro sz
  refine Met.ofW (cc := cX2_rateOf) (maxL := 5) (ret := (some .int)) (by decide) rfl ?_
  intro p e s m args below meth c s₁ B hml hv
  obtain ⟨rfl, hsz, hP, hK, hD0⟩ := hv
  have hx := B.exec
  have hb := B.bytes
  have hr := B.returns
  have hts := atoms_spec (ws := wsX2_rateOf) B.pre
  have hown : s.vm.findClass RX2 = some m.cls := findClass_of_methodNamed B.named
  have hlocks := B.notSynchronized
  subst hsz
  have hD := hD0.self (sz := s.heap.size)
  generalize hAe : va_A (cw cy ad σ) s.heap.size = A at hD ⊢
  have hA : ∀ q : Nat, s.heap.size ≤ q → A q := fun q h => by rw [← hAe]; exact Or.inr h
  have hS : va_S A s.heap s.heap [] := va_S.rf
  have C : Cx p s m _ meth c cX2_rateOf 5 (some .int) RX2 wsX2_rateOf D cy A := ⟨hx, hb, hml, hown, hts, hr, hlocks, hK, hA⟩
  have hl := lv_entry ([.ref (ad 0 0), .int a1, .int a2]) (n := 5) (Nat.le_of_ble_eq_true rfl)
  rw [lg_entry_eq]
  generalize (lg_sl ([.ref (ad 0 0), .int a1, .int a2]) ++ List.replicate (5 - (lg_sl ([.ref (ad 0 0), .int a1, .int a2])).length) Slot.unset).toArray = ls at hl ⊢
  have hl : lv_has ls 5 [(0, .ref (ad 0 0)), (1, .int a1), (2, .int a2)] := hl
  unfold mX2_rateOf at hm
  refine lv_aload_n hx hb dX2_rateOf_0 rfl (lv_at hl 0 rfl) ?_
  refine lv_iload_n hx hb dX2_rateOf_1 rfl (lv_at hl 1 rfl) ?_
  obtain ⟨q_8, hq_8, hm⟩ := ob hm
  refine zc_i (zr_V [.int a1] [] ⟨hx, hb, hml, hown, hts⟩ (ctX2_has l D cy ad σ  a1 q_8 hq_8 _) (cwV 1 hts gX2_rateOf_X2_has rfl rfl rfl (by decide +kernel) ⟨Nat.le_of_ble_eq_true rfl, Nat.le_of_ble_eq_true rfl⟩) hK hP hD 0 cw_0 rfl rfl rfl hl.1 rfl (Nat.le_of_ble_eq_true rfl) dX2_rateOf_2 ⟨Nat.zero_le _, Nat.zero_le _⟩) hD hS hA (fun H locs hP hD hS => ?_)
  refine lv_if_ne (tgt := 10) hx hb dX2_rateOf_5 (by decide) (fun c_9 => ?_) (fun c_9 => ?_)
  · have hm := ifn c_9 hm
    refine lv_iconst (v := -1) hx hb dX2_rateOf_10 (by decide) ?_
    refine lv_istore_n (lv' := [(3, .int (-1 : Int32)), (0, .ref (ad 0 0)), (1, .int a1), (2, .int a2)]) hx hb dX2_rateOf_11 rfl hl (by decide) rfl (fun ls hl => ?_)
    refine lv_sipush (v := 2048) hx hb dX2_rateOf_12 (by decide) ?_
    refine lv_istore (lv' := [(4, .int (2048 : Int32)), (3, .int (-1 : Int32)), (0, .ref (ad 0 0)), (1, .int a1), (2, .int a2)]) hx hb dX2_rateOf_15 hl (by decide) rfl (fun ls hl => ?_)
    exact kX2_rateOf_17_ok C q FU σ a1 a2 (-1 : Int32) (2048 : Int32) _ _ hP hD hS _ (lv_sub hl [2, 3, 4, 1, 0] rfl) hm
  · have hm := ifp c_9 hm
    refine lv_iconst (v := -1) hx hb dX2_rateOf_8 (by decide) ?_
    exact z_i hx hb hr hlocks hm hP hD hS dX2_rateOf_9

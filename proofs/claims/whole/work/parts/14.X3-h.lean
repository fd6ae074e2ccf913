abbrev rmX3_without : Room := { frames := 9, cells := 0, slots := 0, locals := 211 }
theorem lkX3_without_36 : Cond.fieldLink RX3 36 "DeliveryBasketModel" "but" "I" ∈ wsX3_without := by decide +kernel
theorem iwX3_without_X3 : ∀ w ∈ wsX30, w ∈ wsX3_without := fun _ h => List.mem_cons_of_mem _ (List.mem_append_right _ h)
theorem lkX3_without_46 : Cond.fieldLink RX3 46 "DeliveryBasketModel" "value" "[J" ∈ wsX3_without := by decide +kernel
theorem lkX3_without_61 : Cond.fieldLink RX3 61 "DeliveryBasketModel" "thrown" "I" ∈ wsX3_without := by decide +kernel
def bkX3_without_62  (σ : ST) (x2 : Int64) (x4 : Int32) : Option (Int64 × ST) := sv (sI σ 0 0 12 (-1 : Int32)) fun σ_1 => if x4 = (0 : Int32) then ((mX3_refuse σ_1).bind fun q_3 => some ((Int32.toInt64 q_3.1), q_3.2)) else (gd (inb (0 : Int32) 441) (some ((x2 - (gJ σ_1 1 0 (Int32.toNatClampNeg (0 : Int32)))), σ_1)))
def kX3_without_62  (a : ST × Int64 × Int32) : Option (Int64 × ST) := bkX3_without_62  a.1 a.2.1 a.2.2
set_option maxHeartbeats 4000000 in
set_option maxRecDepth 100000 in
theorem kX3_without_62_ok {p : Program} {l : Launch} {e : Env} {s : State} {m : MethodId} {args : Array Value} {below : List Frame} {meth : Method} {c : Code} {D : va_G} {cy : Nat → ClassId} {ad : Nat → Nat → Nat} {A : Nat → Prop} (C : Cx p s m args meth c cX3_without 5 (some .long) RX3 wsX3_without D cy A) (q : Int64 × ST) : ∀ (σ : ST) (x2 : Int64) (x4 : Int32), ∀ (H : Heap) (locs : List Loc), va_P D vwCl (mw cy ad σ) H → va_D A (mw cy ad σ) → va_S A s.heap H locs → ∀ ls : Array Slot, lv_has ls 5 [(0, .ref (ad 0 0)), (2, .long x2), (4, .int x4)] → kX3_without_62 (σ, x2, x4) = some q → W p l e rmX3_without s m args below meth c H locs 0 0 (MQ below (zQl D (mw cy ad q.2) A q.1) args s 0 0 A) (F0 m 62 ls []) := by
  obtain ⟨hx, hb, hml, hown, hts, hr, hlocks, hK, hA⟩ := id C
  intro σ x2 x4 H locs hP hD hS ls hl hm
  have hm : bkX3_without_62  σ x2 x4 = some q := hm
  unfold bkX3_without_62 at hm
  refine lv_aload_n hx hb dX3_without_62 rfl (lv_at hl 0 rfl) ?_
  refine lv_iconst (v := -1) hx hb dX3_without_63 (by decide) ?_
  refine va_put (D := D) (ci := 3) (v := .int (-1 : Int32)) (ty := .int) (C := RX3) (T := TX3) (N := 20) hx hb hts iwX3_without_X3 tyX3 tyX3_ok nmX3 hown hK.1 hP hD hS 0 mw_0 rfl 12 (by decide) (hts _ lkX3_without_36) (fun _ h9 => h9) rfl (by decide +kernel) rfl rfl (Nat.le_of_ble_eq_true rfl) dX3_without_64 (fun H locs hP hD hS => ?_)
  have hP := eP (mw_s0 (σ := σ) (j := 12) (v := (-1 : Int32)) (by rfl)) hP
  have hD := eD (mw_s0 (σ := σ) (j := 12) (v := (-1 : Int32)) (by rfl)) hD
  obtain ⟨σ_1, e_1, hm⟩ := sv_some hm
  have hP : va_P D vwCl (mw cy ad σ_1) H := by rw [e_1]; exact hP
  have hD : va_D A (mw cy ad σ_1) := by rw [e_1]; exact hD
  refine lv_iload hx hb dX3_without_67 (lv_at hl 2 rfl) ?_
  refine lv_if_eq (tgt := 83) hx hb dX3_without_69 (by decide) (fun c_2 => ?_) (fun c_2 => ?_)
  · have hm := ifp c_2 hm
    refine lv_aload_n hx hb dX3_without_83 rfl (lv_at hl 0 rfl) ?_
    obtain ⟨q_3, hq_3, hm⟩ := ob hm
    refine zc_i (zr_V [] [] ⟨hx, hb, hml, hown, hts⟩ (ctX3_refuse l D cy ad σ_1   q_3 hq_3 _) (cwV 0 hts gX3_without_X3_refuse rfl rfl rfl (by decide +kernel) ⟨Nat.le_of_ble_eq_true rfl, Nat.le_of_ble_eq_true rfl⟩) hK hP hD 0 mw_0 rfl rfl rfl hl.1 rfl (Nat.le_of_ble_eq_true rfl) dX3_without_84 ⟨Nat.zero_le _, Nat.zero_le _⟩) hD hS hA (fun H locs hP hD hS => ?_)
    refine lv_i2l hx hb dX3_without_87 rfl ?_
    exact z_l hx hb hr hlocks hm hP hD hS dX3_without_88
  · have hm := ifn c_2 hm
    refine lv_lload_n hx hb dX3_without_72 rfl (lv_at hl 1 rfl) ?_
    refine lv_aload_n hx hb dX3_without_73 rfl (lv_at hl 0 rfl) ?_
    refine va_get (D := D) (ci := 3) (v := .ref (ad 4 0)) (C := RX3) (T := TX3) (N := 20) hx hb hts iwX3_without_X3 hown hK.1 hP 0 mw_0 rfl 15 (by decide) (hts _ lkX3_without_46) (fun _ h9 => h9) rfl dX3_without_74 ?_
    refine lv_iconst (v := 0) hx hb dX3_without_77 (by decide) ?_
    obtain ⟨h_4, hm⟩ := gd_some hm
    refine va_lald hx hb hK.1 hP 4 1 mw_4 rfl (inb_vp h_4) dX3_without_78 ?_
    refine lv_lsub hx hb dX3_without_79 ?_
    refine lv_goto (tgt := 88) hx hb dX3_without_80 (by decide) ?_
    exact z_l hx hb hr hlocks hm hP hD hS dX3_without_88
def mX3_without (σ : ST) (a1 : Int32) : Option (Int64 × ST) := sv (sI σ 0 0 10 (0 : Int32)) fun σ_5 => (mX3_isBond σ_5 a1).bind fun q_6 => if q_6 = (0 : Int32) then ((mX3_refuse σ_5).bind fun q_16 => some ((Int32.toInt64 q_16.1), q_16.2)) else ((mX3_isEligible σ_5 a1).bind fun q_8 => if q_8 = (0 : Int32) then (some ((0 : Int64), σ_5)) else ((mX3_laysTree σ_5 (-1 : Int32)).bind fun q_10 => gd (inb (0 : Int32) 441) (sv (sI q_10 0 0 12 a1) fun σ_12 => (mX3_isAny σ_12).bind fun q_13 => if q_13 = (0 : Int32) then (kX3_without_62 (σ_12, (gJ q_10 1 0 (Int32.toNatClampNeg (0 : Int32))), q_13)) else ((mX3_laysTree σ_12 (-1 : Int32)).bind fun q_15 => kX3_without_62 (q_15, (gJ q_10 1 0 (Int32.toNatClampNeg (0 : Int32))), q_13)))))
set_option maxHeartbeats 4000000 in
set_option maxRecDepth 100000 in
theorem ctX3_without (l : Launch) (D : va_G) (cy : Nat → ClassId) (ad : Nat → Nat → Nat) (σ : ST) (a1 : Int32) (q : Int64 × ST) (hm : mX3_without σ a1 = some q) : zMl l yX3_without wsX3_without rmX3_without D cy [.ref (ad 0 0), .int a1] (mw cy ad σ) q.1 (mw cy ad q.2) := by
  intro sz
  refine Met.ofW (cc := cX3_without) (maxL := 5) (ret := (some .long)) (by decide) rfl ?_
  intro p e s m args below meth c s₁ B hml hv
  obtain ⟨rfl, hsz, hP, hK, hD0⟩ := hv
  have hx := B.exec
  have hb := B.bytes
  have hr := B.returns
  have hts := atoms_spec (ws := wsX3_without) B.pre
  have hown : s.vm.findClass RX3 = some m.cls := findClass_of_methodNamed B.named
  have hlocks := B.notSynchronized
  subst hsz
  have hD := hD0.self (sz := s.heap.size)
  generalize hAe : va_A (mw cy ad σ) s.heap.size = A at hD ⊢
  have hA : ∀ q : Nat, s.heap.size ≤ q → A q := fun q h => by rw [← hAe]; exact Or.inr h
  have hS : va_S A s.heap s.heap [] := va_S.rf
  have C : Cx p s m _ meth c cX3_without 5 (some .long) RX3 wsX3_without D cy A := ⟨hx, hb, hml, hown, hts, hr, hlocks, hK, hA⟩
  have hl := lv_entry ([.ref (ad 0 0), .int a1]) (n := 5) (Nat.le_of_ble_eq_true rfl)
  rw [lg_entry_eq]
  generalize (lg_sl ([.ref (ad 0 0), .int a1]) ++ List.replicate (5 - (lg_sl ([.ref (ad 0 0), .int a1])).length) Slot.unset).toArray = ls at hl ⊢
  have hl : lv_has ls 5 [(0, .ref (ad 0 0)), (1, .int a1)] := hl
  unfold mX3_without at hm
  refine lv_aload_n hx hb dX3_without_0 rfl (lv_at hl 0 rfl) ?_
  refine lv_iconst (v := 0) hx hb dX3_without_1 (by decide) ?_
  refine va_put (D := D) (ci := 3) (v := .int (0 : Int32)) (ty := .int) (C := RX3) (T := TX3) (N := 20) hx hb hts iwX3_without_X3 tyX3 tyX3_ok nmX3 hown hK.1 hP hD hS 0 mw_0 rfl 10 (by decide) (hts _ lkX3_without_61) (fun _ h9 => h9) rfl (by decide +kernel) rfl rfl (Nat.le_of_ble_eq_true rfl) dX3_without_2 (fun H locs hP hD hS => ?_)
  have hP := eP (mw_s0 (σ := σ) (j := 10) (v := (0 : Int32)) (by rfl)) hP
  have hD := eD (mw_s0 (σ := σ) (j := 10) (v := (0 : Int32)) (by rfl)) hD
  obtain ⟨σ_5, e_5, hm⟩ := sv_some hm
  have hP : va_P D vwCl (mw cy ad σ_5) H := by rw [e_5]; exact hP
  have hD : va_D A (mw cy ad σ_5) := by rw [e_5]; exact hD
  refine lv_aload_n hx hb dX3_without_5 rfl (lv_at hl 0 rfl) ?_
  refine lv_iload_n hx hb dX3_without_6 rfl (lv_at hl 1 rfl) ?_
  obtain ⟨q_6, hq_6, hm⟩ := ob hm
  refine zc_i (zr_V [.int a1] [] ⟨hx, hb, hml, hown, hts⟩ (ctX3_isBond l D cy ad σ_5  a1 q_6 hq_6 _) (cwV 1 hts gX3_without_X3_isBond rfl rfl rfl (by decide +kernel) ⟨Nat.le_of_ble_eq_true rfl, Nat.le_of_ble_eq_true rfl⟩) hK hP hD 0 mw_0 rfl rfl rfl hl.1 rfl (Nat.le_of_ble_eq_true rfl) dX3_without_7 ⟨Nat.zero_le _, Nat.zero_le _⟩) hD hS hA (fun H locs hP hD hS => ?_)
  refine lv_if_ne (tgt := 19) hx hb dX3_without_10 (by decide) (fun c_7 => ?_) (fun c_7 => ?_)
  · have hm := ifn c_7 hm
    refine lv_aload_n hx hb dX3_without_19 rfl (lv_at hl 0 rfl) ?_
    refine lv_iload_n hx hb dX3_without_20 rfl (lv_at hl 1 rfl) ?_
    obtain ⟨q_8, hq_8, hm⟩ := ob hm
    refine zc_i (zr_V [.int a1] [] ⟨hx, hb, hml, hown, hts⟩ (ctX3_isEligible l D cy ad σ_5  a1 q_8 hq_8 _) (cwV 1 hts gX3_without_X3_isEligible rfl rfl rfl (by decide +kernel) ⟨Nat.le_of_ble_eq_true rfl, Nat.le_of_ble_eq_true rfl⟩) hK hP hD 0 mw_0 rfl rfl rfl hl.1 rfl (Nat.le_of_ble_eq_true rfl) dX3_without_21 ⟨Nat.zero_le _, Nat.zero_le _⟩) hD hS hA (fun H locs hP hD hS => ?_)
    refine lv_if_ne (tgt := 29) hx hb dX3_without_24 (by decide) (fun c_9 => ?_) (fun c_9 => ?_)
    · have hm := ifn c_9 hm
      refine lv_aload_n hx hb dX3_without_29 rfl (lv_at hl 0 rfl) ?_
      refine lv_iconst (v := -1) hx hb dX3_without_30 (by decide) ?_
      obtain ⟨q_10, hq_10, hm⟩ := ob hm
      refine zc_v (zr_V [.int (-1 : Int32)] [] ⟨hx, hb, hml, hown, hts⟩ (ctX3_laysTree l D cy ad σ_5  (-1 : Int32) q_10 hq_10 _) (cwV 1 hts gX3_without_X3_laysTree rfl rfl rfl (by decide +kernel) ⟨Nat.le_of_ble_eq_true rfl, Nat.le_of_ble_eq_true rfl⟩) hK hP hD 0 mw_0 rfl rfl rfl hl.1 rfl (Nat.le_of_ble_eq_true rfl) dX3_without_31 ⟨Nat.zero_le _, Nat.zero_le _⟩) hD hS hA (fun H locs hP hD hS => ?_)
      refine lv_aload_n hx hb dX3_without_34 rfl (lv_at hl 0 rfl) ?_
      refine va_get (D := D) (ci := 3) (v := .ref (ad 4 0)) (C := RX3) (T := TX3) (N := 20) hx hb hts iwX3_without_X3 hown hK.1 hP 0 mw_0 rfl 15 (by decide) (hts _ lkX3_without_46) (fun _ h9 => h9) rfl dX3_without_35 ?_
      refine lv_iconst (v := 0) hx hb dX3_without_38 (by decide) ?_
      obtain ⟨h_11, hm⟩ := gd_some hm
      refine va_lald hx hb hK.1 hP 4 1 mw_4 rfl (inb_vp h_11) dX3_without_39 ?_
      refine lv_lstore_n (lv' := [(2, .long (gJ q_10 1 0 (Int32.toNatClampNeg (0 : Int32)))), (0, .ref (ad 0 0)), (1, .int a1)]) hx hb dX3_without_40 rfl hl (by decide) rfl (fun ls hl => ?_)
      refine lv_aload_n hx hb dX3_without_41 rfl (lv_at hl 1 rfl) ?_
      refine lv_iload_n hx hb dX3_without_42 rfl (lv_at hl 2 rfl) ?_
      refine va_put (D := D) (ci := 3) (v := .int a1) (ty := .int) (C := RX3) (T := TX3) (N := 20) hx hb hts iwX3_without_X3 tyX3 tyX3_ok nmX3 hown hK.1 hP hD hS 0 mw_0 rfl 12 (by decide) (hts _ lkX3_without_36) (fun _ h9 => h9) rfl (by decide +kernel) rfl rfl (Nat.le_of_ble_eq_true rfl) dX3_without_43 (fun H locs hP hD hS => ?_)
      have hP := eP (mw_s0 (σ := q_10) (j := 12) (v := a1) (by rfl)) hP
      have hD := eD (mw_s0 (σ := q_10) (j := 12) (v := a1) (by rfl)) hD
      obtain ⟨σ_12, e_12, hm⟩ := sv_some hm
      have hP : va_P D vwCl (mw cy ad σ_12) H := by rw [e_12]; exact hP
      have hD : va_D A (mw cy ad σ_12) := by rw [e_12]; exact hD
      refine lv_aload_n hx hb dX3_without_46 rfl (lv_at hl 1 rfl) ?_
      obtain ⟨q_13, hq_13, hm⟩ := ob hm
      refine zc_i (zr_V [] [] ⟨hx, hb, hml, hown, hts⟩ (ctX3_isAny l D cy ad σ_12   q_13 hq_13 _) (cwV 0 hts gX3_without_X3_isAny rfl rfl rfl (by decide +kernel) ⟨Nat.le_of_ble_eq_true rfl, Nat.le_of_ble_eq_true rfl⟩) hK hP hD 0 mw_0 rfl rfl rfl hl.1 rfl (Nat.le_of_ble_eq_true rfl) dX3_without_47 ⟨Nat.zero_le _, Nat.zero_le _⟩) hD hS hA (fun H locs hP hD hS => ?_)
      refine lv_istore (lv' := [(4, .int q_13), (2, .long (gJ q_10 1 0 (Int32.toNatClampNeg (0 : Int32)))), (0, .ref (ad 0 0)), (1, .int a1)]) hx hb dX3_without_50 hl (by decide) rfl (fun ls hl => ?_)
      refine lv_iload hx hb dX3_without_52 (lv_at hl 0 rfl) ?_
      refine lv_if_eq (tgt := 62) hx hb dX3_without_54 (by decide) (fun c_14 => ?_) (fun c_14 => ?_)
      · have hm := ifp c_14 hm
        exact kX3_without_62_ok C q σ_12 (gJ q_10 1 0 (Int32.toNatClampNeg (0 : Int32))) q_13 _ _ hP hD hS _ (lv_sub hl [2, 1, 0] rfl) hm
      · have hm := ifn c_14 hm
        refine lv_aload_n hx hb dX3_without_57 rfl (lv_at hl 2 rfl) ?_
        refine lv_iconst (v := -1) hx hb dX3_without_58 (by decide) ?_
        obtain ⟨q_15, hq_15, hm⟩ := ob hm
        refine zc_v (zr_V [.int (-1 : Int32)] [] ⟨hx, hb, hml, hown, hts⟩ (ctX3_laysTree l D cy ad σ_12  (-1 : Int32) q_15 hq_15 _) (cwV 1 hts gX3_without_X3_laysTree rfl rfl rfl (by decide +kernel) ⟨Nat.le_of_ble_eq_true rfl, Nat.le_of_ble_eq_true rfl⟩) hK hP hD 0 mw_0 rfl rfl rfl hl.1 rfl (Nat.le_of_ble_eq_true rfl) dX3_without_59 ⟨Nat.zero_le _, Nat.zero_le _⟩) hD hS hA (fun H locs hP hD hS => ?_)
        exact kX3_without_62_ok C q q_15 (gJ q_10 1 0 (Int32.toNatClampNeg (0 : Int32))) q_13 _ _ hP hD hS _ (lv_sub hl [2, 1, 0] rfl) hm
    · have hm := ifp c_9 hm
      refine lv_lconst (v := 0) hx hb dX3_without_27 (by decide) ?_
      exact z_l hx hb hr hlocks hm hP hD hS dX3_without_28
  · have hm := ifp c_7 hm
    refine lv_aload_n hx hb dX3_without_13 rfl (lv_at hl 0 rfl) ?_
    obtain ⟨q_16, hq_16, hm⟩ := ob hm
    refine zc_i (zr_V [] [] ⟨hx, hb, hml, hown, hts⟩ (ctX3_refuse l D cy ad σ_5   q_16 hq_16 _) (cwV 0 hts gX3_without_X3_refuse rfl rfl rfl (by decide +kernel) ⟨Nat.le_of_ble_eq_true rfl, Nat.le_of_ble_eq_true rfl⟩) hK hP hD 0 mw_0 rfl rfl rfl hl.1 rfl (Nat.le_of_ble_eq_true rfl) dX3_without_14 ⟨Nat.zero_le _, Nat.zero_le _⟩) hD hS hA (fun H locs hP hD hS => ?_)
    refine lv_i2l hx hb dX3_without_17 rfl ?_
    exact z_l hx hb hr hlocks hm hP hD hS dX3_without_18
abbrev rmX3_isFair : Room := { frames := 9, cells := 0, slots := 0, locals := 211 }
theorem lkX3_isFair_30 : Cond.fieldLink RX3 30 "DeliveryBasketModel" "agreed" "I" ∈ wsX3_isFair := by decide +kernel
theorem iwX3_isFair_X3 : ∀ w ∈ wsX30, w ∈ wsX3_isFair := fun _ h => List.mem_cons_of_mem _ (List.mem_append_right _ h)
theorem lkX3_isFair_46 : Cond.fieldLink RX3 46 "DeliveryBasketModel" "value" "[J" ∈ wsX3_isFair := by decide +kernel
def mX3_isFair (σ : ST) (a1 : Int32) : Option (Int32 × ST) := sv (sI σ 0 0 9 a1) fun σ_1 => (mX3_laysTree σ_1 (-1 : Int32)).bind fun q_2 => sv (sI q_2 0 0 9 (gI σ 0 0 9)) fun σ_3 => gd (inb (0 : Int32) 441) (if (lg_cmp (gJ σ_3 1 0 (Int32.toNatClampNeg (0 : Int32))) (0 : Int64)) < (0 : Int32) then (some ((0 : Int32), σ_3)) else (some ((1 : Int32), σ_3)))
set_option maxHeartbeats 4000000 in
set_option maxRecDepth 100000 in
theorem ctX3_isFair (l : Launch) (D : va_G) (cy : Nat → ClassId) (ad : Nat → Nat → Nat) (σ : ST) (a1 : Int32) (q : Int32 × ST) (hm : mX3_isFair σ a1 = some q) : zMi l yX3_isFair wsX3_isFair rmX3_isFair D cy [.ref (ad 0 0), .int a1] (mw cy ad σ) q.1 (mw cy ad q.2) := by
  intro sz
  refine Met.ofW (cc := cX3_isFair) (maxL := 3) (ret := (some .boolean)) (by decide) rfl ?_
  intro p e s m args below meth c s₁ B hml hv
  obtain ⟨rfl, hsz, hP, hK, hD0⟩ := hv
  have hx := B.exec
  have hb := B.bytes
  have hr := B.returns
  have hts := atoms_spec (ws := wsX3_isFair) B.pre
  have hown : s.vm.findClass RX3 = some m.cls := findClass_of_methodNamed B.named
  have hlocks := B.notSynchronized
  subst hsz
  have hD := hD0.self (sz := s.heap.size)
  generalize hAe : va_A (mw cy ad σ) s.heap.size = A at hD ⊢
  have hA : ∀ q : Nat, s.heap.size ≤ q → A q := fun q h => by rw [← hAe]; exact Or.inr h
  have hS : va_S A s.heap s.heap [] := va_S.rf
  have C : Cx p s m _ meth c cX3_isFair 3 (some .boolean) RX3 wsX3_isFair D cy A := ⟨hx, hb, hml, hown, hts, hr, hlocks, hK, hA⟩
  have hl := lv_entry ([.ref (ad 0 0), .int a1]) (n := 3) (Nat.le_of_ble_eq_true rfl)
  rw [lg_entry_eq]
  generalize (lg_sl ([.ref (ad 0 0), .int a1]) ++ List.replicate (3 - (lg_sl ([.ref (ad 0 0), .int a1])).length) Slot.unset).toArray = ls at hl ⊢
  have hl : lv_has ls 3 [(0, .ref (ad 0 0)), (1, .int a1)] := hl
  unfold mX3_isFair at hm
  refine lv_aload_n hx hb dX3_isFair_0 rfl (lv_at hl 0 rfl) ?_
  refine va_get (D := D) (ci := 3) (v := .int (gI σ 0 0 9)) (C := RX3) (T := TX3) (N := 20) hx hb hts iwX3_isFair_X3 hown hK.1 hP 0 mw_0 rfl 9 (by decide) (hts _ lkX3_isFair_30) (fun _ h9 => h9) rfl dX3_isFair_1 ?_
  refine lv_istore_n (lv' := [(2, .int (gI σ 0 0 9)), (0, .ref (ad 0 0)), (1, .int a1)]) hx hb dX3_isFair_4 rfl hl (by decide) rfl (fun ls hl => ?_)
  refine lv_aload_n hx hb dX3_isFair_5 rfl (lv_at hl 1 rfl) ?_
  refine lv_iload_n hx hb dX3_isFair_6 rfl (lv_at hl 2 rfl) ?_
  refine va_put (D := D) (ci := 3) (v := .int a1) (ty := .int) (C := RX3) (T := TX3) (N := 20) hx hb hts iwX3_isFair_X3 tyX3 tyX3_ok nmX3 hown hK.1 hP hD hS 0 mw_0 rfl 9 (by decide) (hts _ lkX3_isFair_30) (fun _ h9 => h9) rfl (by decide +kernel) rfl rfl (Nat.le_of_ble_eq_true rfl) dX3_isFair_7 (fun H locs hP hD hS => ?_)
  have hP := eP (mw_s0 (σ := σ) (j := 9) (v := a1) (by rfl)) hP
  have hD := eD (mw_s0 (σ := σ) (j := 9) (v := a1) (by rfl)) hD
  obtain ⟨σ_1, e_1, hm⟩ := sv_some hm
  have hP : va_P D vwCl (mw cy ad σ_1) H := by rw [e_1]; exact hP
  have hD : va_D A (mw cy ad σ_1) := by rw [e_1]; exact hD
  refine lv_aload_n hx hb dX3_isFair_10 rfl (lv_at hl 1 rfl) ?_
  refine lv_iconst (v := -1) hx hb dX3_isFair_11 (by decide) ?_
  obtain ⟨q_2, hq_2, hm⟩ := ob hm
  refine zc_v (zr_V [.int (-1 : Int32)] [] ⟨hx, hb, hml, hown, hts⟩ (ctX3_laysTree l D cy ad σ_1  (-1 : Int32) q_2 hq_2 _) (cwV 1 hts gX3_isFair_X3_laysTree rfl rfl rfl (by decide +kernel) ⟨Nat.le_of_ble_eq_true rfl, Nat.le_of_ble_eq_true rfl⟩) hK hP hD 0 mw_0 rfl rfl rfl hl.1 rfl (Nat.le_of_ble_eq_true rfl) dX3_isFair_12 ⟨Nat.zero_le _, Nat.zero_le _⟩) hD hS hA (fun H locs hP hD hS => ?_)
  refine lv_aload_n hx hb dX3_isFair_15 rfl (lv_at hl 1 rfl) ?_
  refine lv_iload_n hx hb dX3_isFair_16 rfl (lv_at hl 0 rfl) ?_
  refine va_put (D := D) (ci := 3) (v := .int (gI σ 0 0 9)) (ty := .int) (C := RX3) (T := TX3) (N := 20) hx hb hts iwX3_isFair_X3 tyX3 tyX3_ok nmX3 hown hK.1 hP hD hS 0 mw_0 rfl 9 (by decide) (hts _ lkX3_isFair_30) (fun _ h9 => h9) rfl (by decide +kernel) rfl rfl (Nat.le_of_ble_eq_true rfl) dX3_isFair_17 (fun H locs hP hD hS => ?_)
  have hP := eP (mw_s0 (σ := q_2) (j := 9) (v := (gI σ 0 0 9)) (by rfl)) hP
  have hD := eD (mw_s0 (σ := q_2) (j := 9) (v := (gI σ 0 0 9)) (by rfl)) hD
  obtain ⟨σ_3, e_3, hm⟩ := sv_some hm
  have hP : va_P D vwCl (mw cy ad σ_3) H := by rw [e_3]; exact hP
  have hD : va_D A (mw cy ad σ_3) := by rw [e_3]; exact hD
  refine lv_aload_n hx hb dX3_isFair_20 rfl (lv_at hl 1 rfl) ?_
  refine va_get (D := D) (ci := 3) (v := .ref (ad 4 0)) (C := RX3) (T := TX3) (N := 20) hx hb hts iwX3_isFair_X3 hown hK.1 hP 0 mw_0 rfl 15 (by decide) (hts _ lkX3_isFair_46) (fun _ h9 => h9) rfl dX3_isFair_21 ?_
  refine lv_iconst (v := 0) hx hb dX3_isFair_24 (by decide) ?_
  obtain ⟨h_4, hm⟩ := gd_some hm
  refine va_lald hx hb hK.1 hP 4 1 mw_4 rfl (inb_vp h_4) dX3_isFair_25 ?_
  refine lv_lconst (v := 0) hx hb dX3_isFair_26 (by decide) ?_
  refine W.lcmp hx hb dX3_isFair_27 ?_
  refine lv_if_lt (tgt := 35) hx hb dX3_isFair_28 (by decide) (fun c_5 => ?_) (fun c_5 => ?_)
  · have hm := ifp c_5 hm
    refine lv_iconst (v := 0) hx hb dX3_isFair_35 (by decide) ?_
    exact z_z hx hb hr hlocks (by decide) hm hP hD hS dX3_isFair_36
  · have hm := ifn c_5 hm
    refine lv_iconst (v := 1) hx hb dX3_isFair_31 (by decide) ?_
    refine lv_goto (tgt := 36) hx hb dX3_isFair_32 (by decide) ?_
    exact z_z hx hb hr hlocks (by decide) hm hP hD hS dX3_isFair_36
abbrev rmX3_fair : Room := { frames := 10, cells := 0, slots := 0, locals := 233 }
theorem lkX3_fair_61 : Cond.fieldLink RX3 61 "DeliveryBasketModel" "thrown" "I" ∈ wsX3_fair := by decide +kernel
theorem iwX3_fair_X3 : ∀ w ∈ wsX30, w ∈ wsX3_fair := fun _ h => List.mem_cons_of_mem _ (List.mem_append_right _ h)
theorem lkX3_fair_206 : Cond.constant RX3 206 (999999999) ∈ wsX3_fair := by decide +kernel
def bkX3_fair_28  (rec : ST × Int32 × Int32 → Option (Int32 × ST)) (σ : ST) (x1 : Int32) (x2 : Int32) : Option (Int32 × ST) := if x2 ≤ x1 then (some (x1, σ)) else ((mX3_isFair σ ((x1 + x2) / (2 : Int32))).bind fun q_2 => if q_2.1 = (0 : Int32) then (rec (q_2.2, (((x1 + x2) / (2 : Int32)) + (1 : Int32)), x2)) else (rec (q_2.2, x1, ((x1 + x2) / (2 : Int32)))))
def kX3_fair_28  (n : Nat) (a : ST × Int32 × Int32) : Option (Int32 × ST) := fx (fun rec a => bkX3_fair_28  rec a.1 a.2.1 a.2.2) n a
set_option maxHeartbeats 4000000 in
set_option maxRecDepth 100000 in
theorem kX3_fair_28_ok {p : Program} {l : Launch} {e : Env} {s : State} {m : MethodId} {args : Array Value} {below : List Frame} {meth : Method} {c : Code} {D : va_G} {cy : Nat → ClassId} {ad : Nat → Nat → Nat} {A : Nat → Prop} (C : Cx p s m args meth c cX3_fair 4 (some .int) RX3 wsX3_fair D cy A) (q : Int32 × ST) : ∀ (n : Nat) (σ : ST) (x1 : Int32) (x2 : Int32), ∀ (H : Heap) (locs : List Loc), va_P D vwCl (mw cy ad σ) H → va_D A (mw cy ad σ) → va_S A s.heap H locs → ∀ ls : Array Slot, lv_has ls 4 [(0, .ref (ad 0 0)), (1, .int x1), (2, .int x2)] → kX3_fair_28 n (σ, x1, x2) = some q → W p l e rmX3_fair s m args below meth c H locs 0 0 (MQ below (zQi D (mw cy ad q.2) A q.1) args s 0 0 A) (F0 m 28 ls []) := by
  obtain ⟨hx, hb, hml, hown, hts, hr, hlocks, hK, hA⟩ := id C
  intro n
  induction n with
  | zero => intro σ x1 x2 H locs hP hD hS ls hl hm; cases hm
  | succ n ih =>
    intro σ x1 x2 H locs hP hD hS ls hl hm
    have hm : bkX3_fair_28  (kX3_fair_28 n) σ x1 x2 = some q := hm
    unfold bkX3_fair_28 at hm
    refine lv_iload_n hx hb dX3_fair_28 rfl (lv_at hl 1 rfl) ?_
    refine lv_iload_n hx hb dX3_fair_29 rfl (lv_at hl 2 rfl) ?_
    refine lv_icmp_ge (tgt := 59) hx hb dX3_fair_30 (by decide) (fun c_1 => ?_) (fun c_1 => ?_)
    · have hm := ifp c_1 hm
      refine lv_iload_n hx hb dX3_fair_59 rfl (lv_at hl 1 rfl) ?_
      exact z_i hx hb hr hlocks hm hP hD hS dX3_fair_60
    · have hm := ifn c_1 hm
      refine lv_iload_n hx hb dX3_fair_33 rfl (lv_at hl 1 rfl) ?_
      refine lv_iload_n hx hb dX3_fair_34 rfl (lv_at hl 2 rfl) ?_
      refine lv_iadd hx hb dX3_fair_35 ?_
      refine lv_iconst (v := 2) hx hb dX3_fair_36 (by decide) ?_
      refine lv_idiv hx hb dX3_fair_37 (by decide) ?_
      refine lv_istore_n (lv' := [(3, .int ((x1 + x2) / (2 : Int32))), (0, .ref (ad 0 0)), (1, .int x1), (2, .int x2)]) hx hb dX3_fair_38 rfl hl (by decide) rfl (fun ls hl => ?_)
      refine lv_aload_n hx hb dX3_fair_39 rfl (lv_at hl 1 rfl) ?_
      refine lv_iload_n hx hb dX3_fair_40 rfl (lv_at hl 0 rfl) ?_
      obtain ⟨q_2, hq_2, hm⟩ := ob hm
      refine zc_i (zr_V [.int ((x1 + x2) / (2 : Int32))] [] ⟨hx, hb, hml, hown, hts⟩ (ctX3_isFair l D cy ad σ  ((x1 + x2) / (2 : Int32)) q_2 hq_2 _) (cwV 1 hts gX3_fair_X3_isFair rfl rfl rfl (by decide +kernel) ⟨Nat.le_of_ble_eq_true rfl, Nat.le_of_ble_eq_true rfl⟩) hK hP hD 0 mw_0 rfl rfl rfl hl.1 rfl (Nat.le_of_ble_eq_true rfl) dX3_fair_41 ⟨Nat.zero_le _, Nat.zero_le _⟩) hD hS hA (fun H locs hP hD hS => ?_)
      refine lv_if_eq (tgt := 52) hx hb dX3_fair_44 (by decide) (fun c_3 => ?_) (fun c_3 => ?_)
      · have hm := ifp c_3 hm
        refine lv_iload_n hx hb dX3_fair_52 rfl (lv_at hl 0 rfl) ?_
        refine lv_iconst (v := 1) hx hb dX3_fair_53 (by decide) ?_
        refine lv_iadd hx hb dX3_fair_54 ?_
        refine lv_istore_n (lv' := [(1, .int (((x1 + x2) / (2 : Int32)) + (1 : Int32))), (3, .int ((x1 + x2) / (2 : Int32))), (0, .ref (ad 0 0)), (2, .int x2)]) hx hb dX3_fair_55 rfl hl (by decide) rfl (fun ls hl => ?_)
        refine lv_goto (tgt := 28) hx hb dX3_fair_56 (by decide) ?_
        exact ih q_2.2 (((x1 + x2) / (2 : Int32)) + (1 : Int32)) x2 _ _ hP hD hS _ (lv_sub hl [2, 0, 3] rfl) hm
      · have hm := ifn c_3 hm
        refine lv_iload_n hx hb dX3_fair_47 rfl (lv_at hl 0 rfl) ?_
        refine lv_istore_n (lv' := [(2, .int ((x1 + x2) / (2 : Int32))), (3, .int ((x1 + x2) / (2 : Int32))), (0, .ref (ad 0 0)), (1, .int x1)]) hx hb dX3_fair_48 rfl hl (by decide) rfl (fun ls hl => ?_)
        refine lv_goto (tgt := 56) hx hb dX3_fair_49 (by decide) ?_
        refine lv_goto (tgt := 28) hx hb dX3_fair_56 (by decide) ?_
        exact ih q_2.2 x1 ((x1 + x2) / (2 : Int32)) _ _ hP hD hS _ (lv_sub hl [2, 3, 0] rfl) hm
def mX3_fair (σ : ST) : Option (Int32 × ST) := sv (sI σ 0 0 10 (0 : Int32)) fun σ_4 => (mX3_isAny σ_4).bind fun q_5 => if q_5 = (0 : Int32) then (some ((-1 : Int32), σ_4)) else ((mX3_isFair σ_4 (999999999 : Int32)).bind fun q_7 => if q_7.1 = (0 : Int32) then (some ((-1 : Int32), q_7.2)) else (kX3_fair_28 FU (q_7.2, (0 : Int32), (999999999 : Int32))))
set_option maxHeartbeats 4000000 in
set_option maxRecDepth 100000 in
theorem ctX3_fair (l : Launch) (D : va_G) (cy : Nat → ClassId) (ad : Nat → Nat → Nat) (σ : ST)  (q : Int32 × ST) (hm : mX3_fair σ = some q) : zMi l yX3_fair wsX3_fair rmX3_fair D cy [.ref (ad 0 0)] (mw cy ad σ) q.1 (mw cy ad q.2) := by
  intro sz
  refine Met.ofW (cc := cX3_fair) (maxL := 4) (ret := (some .int)) (by decide) rfl ?_
  intro p e s m args below meth c s₁ B hml hv
  obtain ⟨rfl, hsz, hP, hK, hD0⟩ := hv
  have hx := B.exec
  have hb := B.bytes
  have hr := B.returns
  have hts := atoms_spec (ws := wsX3_fair) B.pre
  have hown : s.vm.findClass RX3 = some m.cls := findClass_of_methodNamed B.named
  have hlocks := B.notSynchronized
  subst hsz
  have hD := hD0.self (sz := s.heap.size)
  generalize hAe : va_A (mw cy ad σ) s.heap.size = A at hD ⊢
  have hA : ∀ q : Nat, s.heap.size ≤ q → A q := fun q h => by rw [← hAe]; exact Or.inr h
  have hS : va_S A s.heap s.heap [] := va_S.rf
  have C : Cx p s m _ meth c cX3_fair 4 (some .int) RX3 wsX3_fair D cy A := ⟨hx, hb, hml, hown, hts, hr, hlocks, hK, hA⟩
  have hl := lv_entry ([.ref (ad 0 0)]) (n := 4) (Nat.le_of_ble_eq_true rfl)
  rw [lg_entry_eq]
  generalize (lg_sl ([.ref (ad 0 0)]) ++ List.replicate (4 - (lg_sl ([.ref (ad 0 0)])).length) Slot.unset).toArray = ls at hl ⊢
  have hl : lv_has ls 4 [(0, .ref (ad 0 0))] := hl
  unfold mX3_fair at hm
  refine lv_aload_n hx hb dX3_fair_0 rfl (lv_at hl 0 rfl) ?_
  refine lv_iconst (v := 0) hx hb dX3_fair_1 (by decide) ?_
  refine va_put (D := D) (ci := 3) (v := .int (0 : Int32)) (ty := .int) (C := RX3) (T := TX3) (N := 20) hx hb hts iwX3_fair_X3 tyX3 tyX3_ok nmX3 hown hK.1 hP hD hS 0 mw_0 rfl 10 (by decide) (hts _ lkX3_fair_61) (fun _ h9 => h9) rfl (by decide +kernel) rfl rfl (Nat.le_of_ble_eq_true rfl) dX3_fair_2 (fun H locs hP hD hS => ?_)
  have hP := eP (mw_s0 (σ := σ) (j := 10) (v := (0 : Int32)) (by rfl)) hP
  have hD := eD (mw_s0 (σ := σ) (j := 10) (v := (0 : Int32)) (by rfl)) hD
  obtain ⟨σ_4, e_4, hm⟩ := sv_some hm
  have hP : va_P D vwCl (mw cy ad σ_4) H := by rw [e_4]; exact hP
  have hD : va_D A (mw cy ad σ_4) := by rw [e_4]; exact hD
  refine lv_aload_n hx hb dX3_fair_5 rfl (lv_at hl 0 rfl) ?_
  obtain ⟨q_5, hq_5, hm⟩ := ob hm
  refine zc_i (zr_V [] [] ⟨hx, hb, hml, hown, hts⟩ (ctX3_isAny l D cy ad σ_4   q_5 hq_5 _) (cwV 0 hts gX3_fair_X3_isAny rfl rfl rfl (by decide +kernel) ⟨Nat.le_of_ble_eq_true rfl, Nat.le_of_ble_eq_true rfl⟩) hK hP hD 0 mw_0 rfl rfl rfl hl.1 rfl (Nat.le_of_ble_eq_true rfl) dX3_fair_6 ⟨Nat.zero_le _, Nat.zero_le _⟩) hD hS hA (fun H locs hP hD hS => ?_)
  refine lv_if_eq (tgt := 21) hx hb dX3_fair_9 (by decide) (fun c_6 => ?_) (fun c_6 => ?_)
  · have hm := ifp c_6 hm
    refine lv_iconst (v := -1) hx hb dX3_fair_21 (by decide) ?_
    exact z_i hx hb hr hlocks hm hP hD hS dX3_fair_22
  · have hm := ifn c_6 hm
    refine lv_aload_n hx hb dX3_fair_12 rfl (lv_at hl 0 rfl) ?_
    refine lv_ldc (v := 999999999) hx hb hown (hts _ lkX3_fair_206) dX3_fair_13 ?_
    obtain ⟨q_7, hq_7, hm⟩ := ob hm
    refine zc_i (zr_V [.int (999999999 : Int32)] [] ⟨hx, hb, hml, hown, hts⟩ (ctX3_isFair l D cy ad σ_4  (999999999 : Int32) q_7 hq_7 _) (cwV 1 hts gX3_fair_X3_isFair rfl rfl rfl (by decide +kernel) ⟨Nat.le_of_ble_eq_true rfl, Nat.le_of_ble_eq_true rfl⟩) hK hP hD 0 mw_0 rfl rfl rfl hl.1 rfl (Nat.le_of_ble_eq_true rfl) dX3_fair_15 ⟨Nat.zero_le _, Nat.zero_le _⟩) hD hS hA (fun H locs hP hD hS => ?_)
    refine lv_if_ne (tgt := 23) hx hb dX3_fair_18 (by decide) (fun c_8 => ?_) (fun c_8 => ?_)
    · have hm := ifn c_8 hm
      refine lv_iconst (v := 0) hx hb dX3_fair_23 (by decide) ?_
      refine lv_istore_n (lv' := [(1, .int (0 : Int32)), (0, .ref (ad 0 0))]) hx hb dX3_fair_24 rfl hl (by decide) rfl (fun ls hl => ?_)
      refine lv_ldc (v := 999999999) hx hb hown (hts _ lkX3_fair_206) dX3_fair_25 ?_
      refine lv_istore_n (lv' := [(2, .int (999999999 : Int32)), (1, .int (0 : Int32)), (0, .ref (ad 0 0))]) hx hb dX3_fair_27 rfl hl (by decide) rfl (fun ls hl => ?_)
      exact kX3_fair_28_ok C q FU q_7.2 (0 : Int32) (999999999 : Int32) _ _ hP hD hS _ (lv_sub hl [2, 1, 0] rfl) hm
    · have hm := ifp c_8 hm
      refine lv_iconst (v := -1) hx hb dX3_fair_21 (by decide) ?_
      exact z_i hx hb hr hlocks hm hP hD hS dX3_fair_22

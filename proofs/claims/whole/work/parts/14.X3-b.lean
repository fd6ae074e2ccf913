abbrev rmX3_worth : Room := { frames := 4, cells := 0, slots := 0, locals := 91 }
theorem lkX3_worth_105 : Cond.constantLong RX3 105 (10000) ∈ wsX3_worth := by decide +kernel
def bkX3_worth_10 (σ : ST)  (rec : Int32 × Int32 × Int64 × Int32 → Option (Int64)) (x1 : Int32) (x2 : Int32) (x3 : Int64) (x5 : Int32) : Option (Int64) := if x5 ≤ (0 : Int32) then (some x3) else ((mX3_flow1 σ x1 x5).bind fun q_2 => gd (nzl ((10000 : Int64) + (Int32.toInt64 x2))) (rec (x1, x2, (((x3 + q_2) * (10000 : Int64)) / ((10000 : Int64) + (Int32.toInt64 x2))), (x5 + (-1 : Int32)))))
def kX3_worth_10 (σ : ST)  (n : Nat) (a : Int32 × Int32 × Int64 × Int32) : Option (Int64) := fx (fun rec a => bkX3_worth_10 σ  rec a.1 a.2.1 a.2.2.1 a.2.2.2) n a
set_option maxHeartbeats 4000000 in
set_option maxRecDepth 100000 in
theorem kX3_worth_10_ok {p : Program} {l : Launch} {e : Env} {s : State} {m : MethodId} {args : Array Value} {below : List Frame} {meth : Method} {c : Code} {D : va_G} {cy : Nat → ClassId} {ad : Nat → Nat → Nat} {A : Nat → Prop} (C : Cx p s m args meth c cX3_worth 6 (some .long) RX3 wsX3_worth D cy A) (q : Int64) (σ : ST) : ∀ (n : Nat) (x1 : Int32) (x2 : Int32) (x3 : Int64) (x5 : Int32), ∀ (H : Heap) (locs : List Loc), va_P D vwCl (mw cy ad σ) H → va_D A (mw cy ad σ) → va_S A s.heap H locs → ∀ ls : Array Slot, lv_has ls 6 [(0, .ref (ad 0 0)), (1, .int x1), (2, .int x2), (3, .long x3), (5, .int x5)] → kX3_worth_10 σ n (x1, x2, x3, x5) = some q → W p l e rmX3_worth s m args below meth c H locs 0 0 (MQ below (zQl D (mw cy ad σ) A q) args s 0 0 A) (F0 m 10 ls []) := by
  obtain ⟨hx, hb, hml, hown, hts, hr, hlocks, hK, hA⟩ := id C
  intro n
  induction n with
  | zero => intro x1 x2 x3 x5 H locs hP hD hS ls hl hm; cases hm
  | succ n ih =>
    intro x1 x2 x3 x5 H locs hP hD hS ls hl hm
    have hm : bkX3_worth_10 σ  (kX3_worth_10 σ n) x1 x2 x3 x5 = some q := hm
    unfold bkX3_worth_10 at hm
    refine lv_iload hx hb dX3_worth_10 (lv_at hl 4 rfl) ?_
    refine lv_if_le (tgt := 42) hx hb dX3_worth_12 (by decide) (fun c_1 => ?_) (fun c_1 => ?_)
    · have hm := ifp c_1 hm
      refine lv_lload_n hx hb dX3_worth_42 rfl (lv_at hl 3 rfl) ?_
      exact z_pl hx hb hr hlocks hm hP hD hS dX3_worth_43
    · have hm := ifn c_1 hm
      refine lv_lload_n hx hb dX3_worth_15 rfl (lv_at hl 3 rfl) ?_
      refine lv_aload_n hx hb dX3_worth_16 rfl (lv_at hl 0 rfl) ?_
      refine lv_iload_n hx hb dX3_worth_17 rfl (lv_at hl 1 rfl) ?_
      refine lv_iload hx hb dX3_worth_18 (lv_at hl 4 rfl) ?_
      obtain ⟨q_2, hq_2, hm⟩ := ob hm
      refine zc_l (zr_V [.int x1, .int x5] [.long x3] ⟨hx, hb, hml, hown, hts⟩ (ctX3_flow1 l D cy ad σ  x1 x5 q_2 hq_2 _) (cwV 2 hts gX3_worth_X3_flow1 rfl rfl rfl (by decide +kernel) ⟨Nat.le_of_ble_eq_true rfl, Nat.le_of_ble_eq_true rfl⟩) hK hP hD 0 mw_0 rfl rfl rfl hl.1 rfl (Nat.le_of_ble_eq_true rfl) dX3_worth_20 ⟨Nat.zero_le _, Nat.zero_le _⟩) hD hS hA (fun H locs hP hD hS => ?_)
      refine lv_ladd hx hb dX3_worth_23 ?_
      refine lv_ldc2 (v := 10000) hx hb hown (hts _ lkX3_worth_105) dX3_worth_24 ?_
      refine lv_lmul hx hb dX3_worth_27 ?_
      refine lv_ldc2 (v := 10000) hx hb hown (hts _ lkX3_worth_105) dX3_worth_28 ?_
      refine lv_iload_n hx hb dX3_worth_31 rfl (lv_at hl 2 rfl) ?_
      refine lv_i2l hx hb dX3_worth_32 rfl ?_
      refine lv_ladd hx hb dX3_worth_33 ?_
      obtain ⟨h_3, hm⟩ := gd_some hm
      refine lv_ldiv hx hb dX3_worth_34 (nzl_n h_3) ?_
      refine lv_lstore_n (lv' := [(3, .long (((x3 + q_2) * (10000 : Int64)) / ((10000 : Int64) + (Int32.toInt64 x2)))), (0, .ref (ad 0 0)), (1, .int x1), (2, .int x2), (5, .int x5)]) hx hb dX3_worth_35 rfl hl (by decide) rfl (fun ls hl => ?_)
      refine lv_iinc (v := (x5 + (-1 : Int32))) (lv' := [(5, .int (x5 + (-1 : Int32))), (3, .long (((x3 + q_2) * (10000 : Int64)) / ((10000 : Int64) + (Int32.toInt64 x2)))), (0, .ref (ad 0 0)), (1, .int x1), (2, .int x2)]) hx hb dX3_worth_36 hl (k := 4) rfl rfl (by decide) rfl (fun ls hl => ?_)
      refine lv_goto (tgt := 10) hx hb dX3_worth_39 (by decide) ?_
      exact ih x1 x2 (((x3 + q_2) * (10000 : Int64)) / ((10000 : Int64) + (Int32.toInt64 x2))) (x5 + (-1 : Int32)) _ _ hP hD hS _ (lv_sub hl [2, 3, 4, 1, 0] rfl) hm
def mX3_worth (σ : ST) (a1 : Int32) (a2 : Int32) : Option (Int64) := (mX3_of1 σ a1 (2 : Int32)).bind fun q_4 => kX3_worth_10 σ FU (a1, a2, (0 : Int64), q_4)
set_option maxHeartbeats 4000000 in
set_option maxRecDepth 100000 in
theorem ctX3_worth (l : Launch) (D : va_G) (cy : Nat → ClassId) (ad : Nat → Nat → Nat) (σ : ST) (a1 : Int32) (a2 : Int32) (q : Int64) (hm : mX3_worth σ a1 a2 = some q) : zMl l yX3_worth wsX3_worth rmX3_worth D cy [.ref (ad 0 0), .int a1, .int a2] (mw cy ad σ) q (mw cy ad σ) := by
  intro sz
  refine Met.ofW (cc := cX3_worth) (maxL := 6) (ret := (some .long)) (by decide) rfl ?_
  intro p e s m args below meth c s₁ B hml hv
  obtain ⟨rfl, hsz, hP, hK, hD0⟩ := hv
  have hx := B.exec
  have hb := B.bytes
  have hr := B.returns
  have hts := atoms_spec (ws := wsX3_worth) B.pre
  have hown : s.vm.findClass RX3 = some m.cls := findClass_of_methodNamed B.named
  have hlocks := B.notSynchronized
  subst hsz
  have hD := hD0.self (sz := s.heap.size)
  generalize hAe : va_A (mw cy ad σ) s.heap.size = A at hD ⊢
  have hA : ∀ q : Nat, s.heap.size ≤ q → A q := fun q h => by rw [← hAe]; exact Or.inr h
  have hS : va_S A s.heap s.heap [] := va_S.rf
  have C : Cx p s m _ meth c cX3_worth 6 (some .long) RX3 wsX3_worth D cy A := ⟨hx, hb, hml, hown, hts, hr, hlocks, hK, hA⟩
  have hl := lv_entry ([.ref (ad 0 0), .int a1, .int a2]) (n := 6) (Nat.le_of_ble_eq_true rfl)
  rw [lg_entry_eq]
  generalize (lg_sl ([.ref (ad 0 0), .int a1, .int a2]) ++ List.replicate (6 - (lg_sl ([.ref (ad 0 0), .int a1, .int a2])).length) Slot.unset).toArray = ls at hl ⊢
  have hl : lv_has ls 6 [(0, .ref (ad 0 0)), (1, .int a1), (2, .int a2)] := hl
  unfold mX3_worth at hm
  refine lv_lconst (v := 0) hx hb dX3_worth_0 (by decide) ?_
  refine lv_lstore_n (lv' := [(3, .long (0 : Int64)), (0, .ref (ad 0 0)), (1, .int a1), (2, .int a2)]) hx hb dX3_worth_1 rfl hl (by decide) rfl (fun ls hl => ?_)
  refine lv_aload_n hx hb dX3_worth_2 rfl (lv_at hl 1 rfl) ?_
  refine lv_iload_n hx hb dX3_worth_3 rfl (lv_at hl 2 rfl) ?_
  refine lv_iconst (v := 2) hx hb dX3_worth_4 (by decide) ?_
  obtain ⟨q_4, hq_4, hm⟩ := ob hm
  refine zc_i (zr_V [.int a1, .int (2 : Int32)] [] ⟨hx, hb, hml, hown, hts⟩ (ctX3_of1 l D cy ad σ  a1 (2 : Int32) q_4 hq_4 _) (cwV 2 hts gX3_worth_X3_of1 rfl rfl rfl (by decide +kernel) ⟨Nat.le_of_ble_eq_true rfl, Nat.le_of_ble_eq_true rfl⟩) hK hP hD 0 mw_0 rfl rfl rfl hl.1 rfl (Nat.le_of_ble_eq_true rfl) dX3_worth_5 ⟨Nat.zero_le _, Nat.zero_le _⟩) hD hS hA (fun H locs hP hD hS => ?_)
  refine lv_istore (lv' := [(5, .int q_4), (3, .long (0 : Int64)), (0, .ref (ad 0 0)), (1, .int a1), (2, .int a2)]) hx hb dX3_worth_8 hl (by decide) rfl (fun ls hl => ?_)
  exact kX3_worth_10_ok C q σ FU a1 a2 (0 : Int64) q_4 _ _ hP hD hS _ (lv_sub hl [2, 3, 4, 1, 0] rfl) hm
abbrev rmX3_price1 : Room := { frames := 5, cells := 0, slots := 0, locals := 116 }
def mX3_price1 (σ : ST) (a1 : Int32) (a2 : Int32) : Option (Int64) := (mX3_of1 σ a1 (4 : Int32)).bind fun q_1 => if (0 : Int32) ≤ (a2 + q_1) then ((mX3_worth σ a1 (a2 + q_1)).bind fun q_3 => some q_3) else ((mX3_worth σ a1 (0 : Int32)).bind fun q_4 => some q_4)
set_option maxHeartbeats 4000000 in
set_option maxRecDepth 100000 in
theorem ctX3_price1 (l : Launch) (D : va_G) (cy : Nat → ClassId) (ad : Nat → Nat → Nat) (σ : ST) (a1 : Int32) (a2 : Int32) (q : Int64) (hm : mX3_price1 σ a1 a2 = some q) : zMl l yX3_price1 wsX3_price1 rmX3_price1 D cy [.ref (ad 0 0), .int a1, .int a2] (mw cy ad σ) q (mw cy ad σ) := by
  intro sz
  refine Met.ofW (cc := cX3_price1) (maxL := 4) (ret := (some .long)) (by decide) rfl ?_
  intro p e s m args below meth c s₁ B hml hv
  obtain ⟨rfl, hsz, hP, hK, hD0⟩ := hv
  have hx := B.exec
  have hb := B.bytes
  have hr := B.returns
  have hts := atoms_spec (ws := wsX3_price1) B.pre
  have hown : s.vm.findClass RX3 = some m.cls := findClass_of_methodNamed B.named
  have hlocks := B.notSynchronized
  subst hsz
  have hD := hD0.self (sz := s.heap.size)
  generalize hAe : va_A (mw cy ad σ) s.heap.size = A at hD ⊢
  have hA : ∀ q : Nat, s.heap.size ≤ q → A q := fun q h => by rw [← hAe]; exact Or.inr h
  have hS : va_S A s.heap s.heap [] := va_S.rf
  have C : Cx p s m _ meth c cX3_price1 4 (some .long) RX3 wsX3_price1 D cy A := ⟨hx, hb, hml, hown, hts, hr, hlocks, hK, hA⟩
  have hl := lv_entry ([.ref (ad 0 0), .int a1, .int a2]) (n := 4) (Nat.le_of_ble_eq_true rfl)
  rw [lg_entry_eq]
  generalize (lg_sl ([.ref (ad 0 0), .int a1, .int a2]) ++ List.replicate (4 - (lg_sl ([.ref (ad 0 0), .int a1, .int a2])).length) Slot.unset).toArray = ls at hl ⊢
  have hl : lv_has ls 4 [(0, .ref (ad 0 0)), (1, .int a1), (2, .int a2)] := hl
  unfold mX3_price1 at hm
  refine lv_iload_n hx hb dX3_price1_0 rfl (lv_at hl 2 rfl) ?_
  refine lv_aload_n hx hb dX3_price1_1 rfl (lv_at hl 0 rfl) ?_
  refine lv_iload_n hx hb dX3_price1_2 rfl (lv_at hl 1 rfl) ?_
  refine lv_iconst (v := 4) hx hb dX3_price1_3 (by decide) ?_
  obtain ⟨q_1, hq_1, hm⟩ := ob hm
  refine zc_i (zr_V [.int a1, .int (4 : Int32)] [.int a2] ⟨hx, hb, hml, hown, hts⟩ (ctX3_of1 l D cy ad σ  a1 (4 : Int32) q_1 hq_1 _) (cwV 2 hts gX3_price1_X3_of1 rfl rfl rfl (by decide +kernel) ⟨Nat.le_of_ble_eq_true rfl, Nat.le_of_ble_eq_true rfl⟩) hK hP hD 0 mw_0 rfl rfl rfl hl.1 rfl (Nat.le_of_ble_eq_true rfl) dX3_price1_4 ⟨Nat.zero_le _, Nat.zero_le _⟩) hD hS hA (fun H locs hP hD hS => ?_)
  refine lv_iadd hx hb dX3_price1_7 ?_
  refine lv_istore_n (lv' := [(3, .int (a2 + q_1)), (0, .ref (ad 0 0)), (1, .int a1), (2, .int a2)]) hx hb dX3_price1_8 rfl hl (by decide) rfl (fun ls hl => ?_)
  refine lv_aload_n hx hb dX3_price1_9 rfl (lv_at hl 1 rfl) ?_
  refine lv_iload_n hx hb dX3_price1_10 rfl (lv_at hl 2 rfl) ?_
  refine lv_iload_n hx hb dX3_price1_11 rfl (lv_at hl 0 rfl) ?_
  refine lv_if_ge (tgt := 19) hx hb dX3_price1_12 (by decide) (fun c_2 => ?_) (fun c_2 => ?_)
  · have hm := ifp c_2 hm
    refine lv_iload_n hx hb dX3_price1_19 rfl (lv_at hl 0 rfl) ?_
    obtain ⟨q_3, hq_3, hm⟩ := ob hm
    refine zc_l (zr_V [.int a1, .int (a2 + q_1)] [] ⟨hx, hb, hml, hown, hts⟩ (ctX3_worth l D cy ad σ  a1 (a2 + q_1) q_3 hq_3 _) (cwV 2 hts gX3_price1_X3_worth rfl rfl rfl (by decide +kernel) ⟨Nat.le_of_ble_eq_true rfl, Nat.le_of_ble_eq_true rfl⟩) hK hP hD 0 mw_0 rfl rfl rfl hl.1 rfl (Nat.le_of_ble_eq_true rfl) dX3_price1_20 ⟨Nat.zero_le _, Nat.zero_le _⟩) hD hS hA (fun H locs hP hD hS => ?_)
    exact z_pl hx hb hr hlocks hm hP hD hS dX3_price1_23
  · have hm := ifn c_2 hm
    refine lv_iconst (v := 0) hx hb dX3_price1_15 (by decide) ?_
    refine lv_goto (tgt := 20) hx hb dX3_price1_16 (by decide) ?_
    obtain ⟨q_4, hq_4, hm⟩ := ob hm
    refine zc_l (zr_V [.int a1, .int (0 : Int32)] [] ⟨hx, hb, hml, hown, hts⟩ (ctX3_worth l D cy ad σ  a1 (0 : Int32) q_4 hq_4 _) (cwV 2 hts gX3_price1_X3_worth rfl rfl rfl (by decide +kernel) ⟨Nat.le_of_ble_eq_true rfl, Nat.le_of_ble_eq_true rfl⟩) hK hP hD 0 mw_0 rfl rfl rfl hl.1 rfl (Nat.le_of_ble_eq_true rfl) dX3_price1_20 ⟨Nat.zero_le _, Nat.zero_le _⟩) hD hS hA (fun H locs hP hD hS => ?_)
    exact z_pl hx hb hr hlocks hm hP hD hS dX3_price1_23
abbrev rmX3_factor : Room := { frames := 5, cells := 0, slots := 0, locals := 116 }
theorem lkX3_factor_13 : Cond.fieldLink RX3 13 "DeliveryBasketModel" "notional" "I" ∈ wsX3_factor := by decide +kernel
theorem iwX3_factor_X3 : ∀ w ∈ wsX30, w ∈ wsX3_factor := fun _ h => List.mem_cons_of_mem _ (List.mem_append_right _ h)
theorem lkX3_factor_105 : Cond.constantLong RX3 105 (10000) ∈ wsX3_factor := by decide +kernel
def mX3_factor (σ : ST) (a1 : Int32) : Option (Int64) := (mX3_worth σ a1 (gI σ 0 0 2)).bind fun q_1 => some (q_1 / (10000 : Int64))
set_option maxHeartbeats 4000000 in
set_option maxRecDepth 100000 in
theorem ctX3_factor (l : Launch) (D : va_G) (cy : Nat → ClassId) (ad : Nat → Nat → Nat) (σ : ST) (a1 : Int32) (q : Int64) (hm : mX3_factor σ a1 = some q) : zMl l yX3_factor wsX3_factor rmX3_factor D cy [.ref (ad 0 0), .int a1] (mw cy ad σ) q (mw cy ad σ) := by
  intro sz
  refine Met.ofW (cc := cX3_factor) (maxL := 2) (ret := (some .long)) (by decide) rfl ?_
  intro p e s m args below meth c s₁ B hml hv
  obtain ⟨rfl, hsz, hP, hK, hD0⟩ := hv
  have hx := B.exec
  have hb := B.bytes
  have hr := B.returns
  have hts := atoms_spec (ws := wsX3_factor) B.pre
  have hown : s.vm.findClass RX3 = some m.cls := findClass_of_methodNamed B.named
  have hlocks := B.notSynchronized
  subst hsz
  have hD := hD0.self (sz := s.heap.size)
  generalize hAe : va_A (mw cy ad σ) s.heap.size = A at hD ⊢
  have hA : ∀ q : Nat, s.heap.size ≤ q → A q := fun q h => by rw [← hAe]; exact Or.inr h
  have hS : va_S A s.heap s.heap [] := va_S.rf
  have C : Cx p s m _ meth c cX3_factor 2 (some .long) RX3 wsX3_factor D cy A := ⟨hx, hb, hml, hown, hts, hr, hlocks, hK, hA⟩
  have hl := lv_entry ([.ref (ad 0 0), .int a1]) (n := 2) (Nat.le_of_ble_eq_true rfl)
  rw [lg_entry_eq]
  generalize (lg_sl ([.ref (ad 0 0), .int a1]) ++ List.replicate (2 - (lg_sl ([.ref (ad 0 0), .int a1])).length) Slot.unset).toArray = ls at hl ⊢
  have hl : lv_has ls 2 [(0, .ref (ad 0 0)), (1, .int a1)] := hl
  unfold mX3_factor at hm
  refine lv_aload_n hx hb dX3_factor_0 rfl (lv_at hl 0 rfl) ?_
  refine lv_iload_n hx hb dX3_factor_1 rfl (lv_at hl 1 rfl) ?_
  refine lv_aload_n hx hb dX3_factor_2 rfl (lv_at hl 0 rfl) ?_
  refine va_get (D := D) (ci := 3) (v := .int (gI σ 0 0 2)) (C := RX3) (T := TX3) (N := 20) hx hb hts iwX3_factor_X3 hown hK.1 hP 0 mw_0 rfl 2 (by decide) (hts _ lkX3_factor_13) (fun _ h9 => h9) rfl dX3_factor_3 ?_
  obtain ⟨q_1, hq_1, hm⟩ := ob hm
  refine zc_l (zr_V [.int a1, .int (gI σ 0 0 2)] [] ⟨hx, hb, hml, hown, hts⟩ (ctX3_worth l D cy ad σ  a1 (gI σ 0 0 2) q_1 hq_1 _) (cwV 2 hts gX3_factor_X3_worth rfl rfl rfl (by decide +kernel) ⟨Nat.le_of_ble_eq_true rfl, Nat.le_of_ble_eq_true rfl⟩) hK hP hD 0 mw_0 rfl rfl rfl hl.1 rfl (Nat.le_of_ble_eq_true rfl) dX3_factor_6 ⟨Nat.zero_le _, Nat.zero_le _⟩) hD hS hA (fun H locs hP hD hS => ?_)
  refine lv_ldc2 (v := 10000) hx hb hown (hts _ lkX3_factor_105) dX3_factor_9 ?_
  refine lv_ldiv hx hb dX3_factor_12 (by decide) ?_
  exact z_pl hx hb hr hlocks hm hP hD hS dX3_factor_13
abbrev rmX3_isEligible : Room := { frames := 6, cells := 0, slots := 0, locals := 137 }
theorem lkX3_isEligible_36 : Cond.fieldLink RX3 36 "DeliveryBasketModel" "but" "I" ∈ wsX3_isEligible := by decide +kernel
theorem iwX3_isEligible_X3 : ∀ w ∈ wsX30, w ∈ wsX3_isEligible := fun _ h => List.mem_cons_of_mem _ (List.mem_append_right _ h)
theorem lkX3_isEligible_17 : Cond.fieldLink RX3 17 "DeliveryBasketModel" "least" "I" ∈ wsX3_isEligible := by decide +kernel
theorem lkX3_isEligible_20 : Cond.fieldLink RX3 20 "DeliveryBasketModel" "most" "I" ∈ wsX3_isEligible := by decide +kernel
theorem lkX3_isEligible_33 : Cond.fieldLink RX3 33 "DeliveryBasketModel" "alone" "I" ∈ wsX3_isEligible := by decide +kernel
def bkX3_isEligible_16 (σ : ST)  (x1 : Int32) : Option (Int32) := if x1 = (gI σ 0 0 12) then (some (0 : Int32)) else ((mX3_of1 σ x1 (6 : Int32)).bind fun q_2 => if q_2 = (0 : Int32) then ((mX3_of1 σ x1 (2 : Int32)).bind fun q_4 => (mX3_isIn (Int32.toInt64 q_4) (Int32.toInt64 (gI σ 0 0 3)) (Int32.toInt64 (gI σ 0 0 4))).bind fun q_5 => if q_5 = (0 : Int32) then (some (0 : Int32)) else ((mX3_factor σ x1).bind fun q_7 => if (lg_cmp q_7 (0 : Int64)) ≤ (0 : Int32) then (some (0 : Int32)) else (some (1 : Int32)))) else (some (0 : Int32)))
def kX3_isEligible_16 (σ : ST)  (a : Int32) : Option (Int32) := bkX3_isEligible_16 σ  a
set_option maxHeartbeats 4000000 in
set_option maxRecDepth 100000 in
theorem kX3_isEligible_16_ok {p : Program} {l : Launch} {e : Env} {s : State} {m : MethodId} {args : Array Value} {below : List Frame} {meth : Method} {c : Code} {D : va_G} {cy : Nat → ClassId} {ad : Nat → Nat → Nat} {A : Nat → Prop} (C : Cx p s m args meth c cX3_isEligible 2 (some .boolean) RX3 wsX3_isEligible D cy A) (q : Int32) (σ : ST) : ∀ (x1 : Int32), ∀ (H : Heap) (locs : List Loc), va_P D vwCl (mw cy ad σ) H → va_D A (mw cy ad σ) → va_S A s.heap H locs → ∀ ls : Array Slot, lv_has ls 2 [(0, .ref (ad 0 0)), (1, .int x1)] → kX3_isEligible_16 σ x1 = some q → W p l e rmX3_isEligible s m args below meth c H locs 0 0 (MQ below (zQi D (mw cy ad σ) A q) args s 0 0 A) (F0 m 16 ls []) := by
  obtain ⟨hx, hb, hml, hown, hts, hr, hlocks, hK, hA⟩ := id C
  intro x1 H locs hP hD hS ls hl hm
  have hm : bkX3_isEligible_16 σ  x1 = some q := hm
  unfold bkX3_isEligible_16 at hm
  refine lv_iload_n hx hb dX3_isEligible_16 rfl (lv_at hl 1 rfl) ?_
  refine lv_aload_n hx hb dX3_isEligible_17 rfl (lv_at hl 0 rfl) ?_
  refine va_get (D := D) (ci := 3) (v := .int (gI σ 0 0 12)) (C := RX3) (T := TX3) (N := 20) hx hb hts iwX3_isEligible_X3 hown hK.1 hP 0 mw_0 rfl 12 (by decide) (hts _ lkX3_isEligible_36) (fun _ h9 => h9) rfl dX3_isEligible_18 ?_
  refine lv_icmp_ne (tgt := 26) hx hb dX3_isEligible_21 (by decide) (fun c_1 => ?_) (fun c_1 => ?_)
  · have hm := ifn c_1 hm
    refine lv_aload_n hx hb dX3_isEligible_26 rfl (lv_at hl 0 rfl) ?_
    refine lv_iload_n hx hb dX3_isEligible_27 rfl (lv_at hl 1 rfl) ?_
    refine lv_bipush (v := 6) hx hb dX3_isEligible_28 (by decide) ?_
    obtain ⟨q_2, hq_2, hm⟩ := ob hm
    refine zc_i (zr_V [.int x1, .int (6 : Int32)] [] ⟨hx, hb, hml, hown, hts⟩ (ctX3_of1 l D cy ad σ  x1 (6 : Int32) q_2 hq_2 _) (cwV 2 hts gX3_isEligible_X3_of1 rfl rfl rfl (by decide +kernel) ⟨Nat.le_of_ble_eq_true rfl, Nat.le_of_ble_eq_true rfl⟩) hK hP hD 0 mw_0 rfl rfl rfl hl.1 rfl (Nat.le_of_ble_eq_true rfl) dX3_isEligible_30 ⟨Nat.zero_le _, Nat.zero_le _⟩) hD hS hA (fun H locs hP hD hS => ?_)
    refine lv_if_ne (tgt := 73) hx hb dX3_isEligible_33 (by decide) (fun c_3 => ?_) (fun c_3 => ?_)
    · have hm := ifn c_3 hm
      refine lv_iconst (v := 0) hx hb dX3_isEligible_73 (by decide) ?_
      exact z_pz hx hb hr hlocks (by decide) hm hP hD hS dX3_isEligible_74
    · have hm := ifp c_3 hm
      refine lv_aload_n hx hb dX3_isEligible_36 rfl (lv_at hl 0 rfl) ?_
      refine lv_iload_n hx hb dX3_isEligible_37 rfl (lv_at hl 1 rfl) ?_
      refine lv_iconst (v := 2) hx hb dX3_isEligible_38 (by decide) ?_
      obtain ⟨q_4, hq_4, hm⟩ := ob hm
      refine zc_i (zr_V [.int x1, .int (2 : Int32)] [] ⟨hx, hb, hml, hown, hts⟩ (ctX3_of1 l D cy ad σ  x1 (2 : Int32) q_4 hq_4 _) (cwV 2 hts gX3_isEligible_X3_of1 rfl rfl rfl (by decide +kernel) ⟨Nat.le_of_ble_eq_true rfl, Nat.le_of_ble_eq_true rfl⟩) hK hP hD 0 mw_0 rfl rfl rfl hl.1 rfl (Nat.le_of_ble_eq_true rfl) dX3_isEligible_39 ⟨Nat.zero_le _, Nat.zero_le _⟩) hD hS hA (fun H locs hP hD hS => ?_)
      refine lv_i2l hx hb dX3_isEligible_42 rfl ?_
      refine lv_aload_n hx hb dX3_isEligible_43 rfl (lv_at hl 0 rfl) ?_
      refine va_get (D := D) (ci := 3) (v := .int (gI σ 0 0 3)) (C := RX3) (T := TX3) (N := 20) hx hb hts iwX3_isEligible_X3 hown hK.1 hP 0 mw_0 rfl 3 (by decide) (hts _ lkX3_isEligible_17) (fun _ h9 => h9) rfl dX3_isEligible_44 ?_
      refine lv_i2l hx hb dX3_isEligible_47 rfl ?_
      refine lv_aload_n hx hb dX3_isEligible_48 rfl (lv_at hl 0 rfl) ?_
      refine va_get (D := D) (ci := 3) (v := .int (gI σ 0 0 4)) (C := RX3) (T := TX3) (N := 20) hx hb hts iwX3_isEligible_X3 hown hK.1 hP 0 mw_0 rfl 4 (by decide) (hts _ lkX3_isEligible_20) (fun _ h9 => h9) rfl dX3_isEligible_49 ?_
      refine lv_i2l hx hb dX3_isEligible_52 rfl ?_
      obtain ⟨q_5, hq_5, hm⟩ := ob hm
      refine zc_i (zr_S [.long (Int32.toInt64 q_4), .long (Int32.toInt64 (gI σ 0 0 3)), .long (Int32.toInt64 (gI σ 0 0 4))] [] ⟨hx, hb, hml, hown, hts⟩ (ctX3_isIn l D cy (mw cy ad σ)  (Int32.toInt64 q_4) (Int32.toInt64 (gI σ 0 0 3)) (Int32.toInt64 (gI σ 0 0 4)) q_5 hq_5 _) (va_cwS 3 hts gX3_isEligible_X3_isIn rfl rfl rfl (by decide +kernel) ⟨Nat.le_of_ble_eq_true rfl, Nat.le_of_ble_eq_true rfl⟩) hK hP hD rfl hl.1 rfl (Nat.le_of_ble_eq_true rfl) dX3_isEligible_53 ⟨Nat.zero_le _, Nat.zero_le _⟩) hD hS hA (fun H locs hP hD hS => ?_)
      refine lv_if_eq (tgt := 73) hx hb dX3_isEligible_56 (by decide) (fun c_6 => ?_) (fun c_6 => ?_)
      · have hm := ifp c_6 hm
        refine lv_iconst (v := 0) hx hb dX3_isEligible_73 (by decide) ?_
        exact z_pz hx hb hr hlocks (by decide) hm hP hD hS dX3_isEligible_74
      · have hm := ifn c_6 hm
        refine lv_aload_n hx hb dX3_isEligible_59 rfl (lv_at hl 0 rfl) ?_
        refine lv_iload_n hx hb dX3_isEligible_60 rfl (lv_at hl 1 rfl) ?_
        obtain ⟨q_7, hq_7, hm⟩ := ob hm
        refine zc_l (zr_V [.int x1] [] ⟨hx, hb, hml, hown, hts⟩ (ctX3_factor l D cy ad σ  x1 q_7 hq_7 _) (cwV 1 hts gX3_isEligible_X3_factor rfl rfl rfl (by decide +kernel) ⟨Nat.le_of_ble_eq_true rfl, Nat.le_of_ble_eq_true rfl⟩) hK hP hD 0 mw_0 rfl rfl rfl hl.1 rfl (Nat.le_of_ble_eq_true rfl) dX3_isEligible_61 ⟨Nat.zero_le _, Nat.zero_le _⟩) hD hS hA (fun H locs hP hD hS => ?_)
        refine lv_lconst (v := 0) hx hb dX3_isEligible_64 (by decide) ?_
        refine W.lcmp hx hb dX3_isEligible_65 ?_
        refine lv_if_le (tgt := 73) hx hb dX3_isEligible_66 (by decide) (fun c_8 => ?_) (fun c_8 => ?_)
        · have hm := ifp c_8 hm
          refine lv_iconst (v := 0) hx hb dX3_isEligible_73 (by decide) ?_
          exact z_pz hx hb hr hlocks (by decide) hm hP hD hS dX3_isEligible_74
        · have hm := ifn c_8 hm
          refine lv_iconst (v := 1) hx hb dX3_isEligible_69 (by decide) ?_
          refine lv_goto (tgt := 74) hx hb dX3_isEligible_70 (by decide) ?_
          exact z_pz hx hb hr hlocks (by decide) hm hP hD hS dX3_isEligible_74
  · have hm := ifp c_1 hm
    refine lv_iconst (v := 0) hx hb dX3_isEligible_24 (by decide) ?_
    exact z_pz hx hb hr hlocks (by decide) hm hP hD hS dX3_isEligible_25
def mX3_isEligible (σ : ST) (a1 : Int32) : Option (Int32) := if (gI σ 0 0 11) = (-1 : Int32) then (kX3_isEligible_16 σ a1) else (if a1 = (gI σ 0 0 11) then (kX3_isEligible_16 σ a1) else (some (0 : Int32)))
set_option maxHeartbeats 4000000 in
set_option maxRecDepth 100000 in
theorem ctX3_isEligible (l : Launch) (D : va_G) (cy : Nat → ClassId) (ad : Nat → Nat → Nat) (σ : ST) (a1 : Int32) (q : Int32) (hm : mX3_isEligible σ a1 = some q) : zMi l yX3_isEligible wsX3_isEligible rmX3_isEligible D cy [.ref (ad 0 0), .int a1] (mw cy ad σ) q (mw cy ad σ) := by
  intro sz
  refine Met.ofW (cc := cX3_isEligible) (maxL := 2) (ret := (some .boolean)) (by decide) rfl ?_
  intro p e s m args below meth c s₁ B hml hv
  obtain ⟨rfl, hsz, hP, hK, hD0⟩ := hv
  have hx := B.exec
  have hb := B.bytes
  have hr := B.returns
  have hts := atoms_spec (ws := wsX3_isEligible) B.pre
  have hown : s.vm.findClass RX3 = some m.cls := findClass_of_methodNamed B.named
  have hlocks := B.notSynchronized
  subst hsz
  have hD := hD0.self (sz := s.heap.size)
  generalize hAe : va_A (mw cy ad σ) s.heap.size = A at hD ⊢
  have hA : ∀ q : Nat, s.heap.size ≤ q → A q := fun q h => by rw [← hAe]; exact Or.inr h
  have hS : va_S A s.heap s.heap [] := va_S.rf
  have C : Cx p s m _ meth c cX3_isEligible 2 (some .boolean) RX3 wsX3_isEligible D cy A := ⟨hx, hb, hml, hown, hts, hr, hlocks, hK, hA⟩
  have hl := lv_entry ([.ref (ad 0 0), .int a1]) (n := 2) (Nat.le_of_ble_eq_true rfl)
  rw [lg_entry_eq]
  generalize (lg_sl ([.ref (ad 0 0), .int a1]) ++ List.replicate (2 - (lg_sl ([.ref (ad 0 0), .int a1])).length) Slot.unset).toArray = ls at hl ⊢
  have hl : lv_has ls 2 [(0, .ref (ad 0 0)), (1, .int a1)] := hl
  unfold mX3_isEligible at hm
  refine lv_aload_n hx hb dX3_isEligible_0 rfl (lv_at hl 0 rfl) ?_
  refine va_get (D := D) (ci := 3) (v := .int (gI σ 0 0 11)) (C := RX3) (T := TX3) (N := 20) hx hb hts iwX3_isEligible_X3 hown hK.1 hP 0 mw_0 rfl 11 (by decide) (hts _ lkX3_isEligible_33) (fun _ h9 => h9) rfl dX3_isEligible_1 ?_
  refine lv_iconst (v := -1) hx hb dX3_isEligible_4 (by decide) ?_
  refine lv_icmp_eq (tgt := 16) hx hb dX3_isEligible_5 (by decide) (fun c_9 => ?_) (fun c_9 => ?_)
  · have hm := ifp c_9 hm
    exact kX3_isEligible_16_ok C q σ a1 _ _ hP hD hS _ (lv_sub hl [0, 1] rfl) hm
  · have hm := ifn c_9 hm
    refine lv_iload_n hx hb dX3_isEligible_8 rfl (lv_at hl 1 rfl) ?_
    refine lv_aload_n hx hb dX3_isEligible_9 rfl (lv_at hl 0 rfl) ?_
    refine va_get (D := D) (ci := 3) (v := .int (gI σ 0 0 11)) (C := RX3) (T := TX3) (N := 20) hx hb hts iwX3_isEligible_X3 hown hK.1 hP 0 mw_0 rfl 11 (by decide) (hts _ lkX3_isEligible_33) (fun _ h9 => h9) rfl dX3_isEligible_10 ?_
    refine lv_icmp_ne (tgt := 24) hx hb dX3_isEligible_13 (by decide) (fun c_10 => ?_) (fun c_10 => ?_)
    · have hm := ifn c_10 hm
      refine lv_iconst (v := 0) hx hb dX3_isEligible_24 (by decide) ?_
      exact z_pz hx hb hr hlocks (by decide) hm hP hD hS dX3_isEligible_25
    · have hm := ifp c_10 hm
      exact kX3_isEligible_16_ok C q σ a1 _ _ hP hD hS _ (lv_sub hl [0, 1] rfl) hm
abbrev rmX3_eligible : Room := { frames := 7, cells := 0, slots := 0, locals := 158 }
theorem lkX3_eligible_64 : Cond.fieldLink RX3 64 "DeliveryBasketModel" "many" "I" ∈ wsX3_eligible := by decide +kernel
theorem iwX3_eligible_X3 : ∀ w ∈ wsX30, w ∈ wsX3_eligible := fun _ h => List.mem_cons_of_mem _ (List.mem_append_right _ h)
def bkX3_eligible_4 (σ : ST)  (rec : Int32 × Int32 → Option (Int32)) (x1 : Int32) (x2 : Int32) : Option (Int32) := if (gI σ 0 0 1) ≤ x2 then (some x1) else ((mX3_isEligible σ x2).bind fun q_2 => if q_2 = (0 : Int32) then (rec ((x1 ||| (0 : Int32)), (x2 + (1 : Int32)))) else (rec ((x1 ||| ((1 : Int32) <<< (x2 &&& 31))), (x2 + (1 : Int32)))))
def kX3_eligible_4 (σ : ST)  (n : Nat) (a : Int32 × Int32) : Option (Int32) := fx (fun rec a => bkX3_eligible_4 σ  rec a.1 a.2) n a
set_option maxHeartbeats 4000000 in
set_option maxRecDepth 100000 in
theorem kX3_eligible_4_ok {p : Program} {l : Launch} {e : Env} {s : State} {m : MethodId} {args : Array Value} {below : List Frame} {meth : Method} {c : Code} {D : va_G} {cy : Nat → ClassId} {ad : Nat → Nat → Nat} {A : Nat → Prop} (C : Cx p s m args meth c cX3_eligible 3 (some .int) RX3 wsX3_eligible D cy A) (q : Int32) (σ : ST) : ∀ (n : Nat) (x1 : Int32) (x2 : Int32), ∀ (H : Heap) (locs : List Loc), va_P D vwCl (mw cy ad σ) H → va_D A (mw cy ad σ) → va_S A s.heap H locs → ∀ ls : Array Slot, lv_has ls 3 [(0, .ref (ad 0 0)), (1, .int x1), (2, .int x2)] → kX3_eligible_4 σ n (x1, x2) = some q → W p l e rmX3_eligible s m args below meth c H locs 0 0 (MQ below (zQi D (mw cy ad σ) A q) args s 0 0 A) (F0 m 4 ls []) := by
  obtain ⟨hx, hb, hml, hown, hts, hr, hlocks, hK, hA⟩ := id C
  intro n
  induction n with
  | zero => intro x1 x2 H locs hP hD hS ls hl hm; cases hm
  | succ n ih =>
    intro x1 x2 H locs hP hD hS ls hl hm
    have hm : bkX3_eligible_4 σ  (kX3_eligible_4 σ n) x1 x2 = some q := hm
    unfold bkX3_eligible_4 at hm
    refine lv_iload_n hx hb dX3_eligible_4 rfl (lv_at hl 2 rfl) ?_
    refine lv_aload_n hx hb dX3_eligible_5 rfl (lv_at hl 0 rfl) ?_
    refine va_get (D := D) (ci := 3) (v := .int (gI σ 0 0 1)) (C := RX3) (T := TX3) (N := 20) hx hb hts iwX3_eligible_X3 hown hK.1 hP 0 mw_0 rfl 1 (by decide) (hts _ lkX3_eligible_64) (fun _ h9 => h9) rfl dX3_eligible_6 ?_
    refine lv_icmp_ge (tgt := 36) hx hb dX3_eligible_9 (by decide) (fun c_1 => ?_) (fun c_1 => ?_)
    · have hm := ifp c_1 hm
      refine lv_iload_n hx hb dX3_eligible_36 rfl (lv_at hl 1 rfl) ?_
      exact z_pi hx hb hr hlocks hm hP hD hS dX3_eligible_37
    · have hm := ifn c_1 hm
      refine lv_iload_n hx hb dX3_eligible_12 rfl (lv_at hl 1 rfl) ?_
      refine lv_aload_n hx hb dX3_eligible_13 rfl (lv_at hl 0 rfl) ?_
      refine lv_iload_n hx hb dX3_eligible_14 rfl (lv_at hl 2 rfl) ?_
      obtain ⟨q_2, hq_2, hm⟩ := ob hm
      refine zc_i (zr_V [.int x2] [.int x1] ⟨hx, hb, hml, hown, hts⟩ (ctX3_isEligible l D cy ad σ  x2 q_2 hq_2 _) (cwV 1 hts gX3_eligible_X3_isEligible rfl rfl rfl (by decide +kernel) ⟨Nat.le_of_ble_eq_true rfl, Nat.le_of_ble_eq_true rfl⟩) hK hP hD 0 mw_0 rfl rfl rfl hl.1 rfl (Nat.le_of_ble_eq_true rfl) dX3_eligible_15 ⟨Nat.zero_le _, Nat.zero_le _⟩) hD hS hA (fun H locs hP hD hS => ?_)
      refine lv_if_eq (tgt := 27) hx hb dX3_eligible_18 (by decide) (fun c_3 => ?_) (fun c_3 => ?_)
      · have hm := ifp c_3 hm
        refine lv_iconst (v := 0) hx hb dX3_eligible_27 (by decide) ?_
        refine lv_ior hx hb dX3_eligible_28 ?_
        refine lv_istore_n (lv' := [(1, .int (x1 ||| (0 : Int32))), (0, .ref (ad 0 0)), (2, .int x2)]) hx hb dX3_eligible_29 rfl hl (by decide) rfl (fun ls hl => ?_)
        refine lv_iinc (v := (x2 + (1 : Int32))) (lv' := [(2, .int (x2 + (1 : Int32))), (1, .int (x1 ||| (0 : Int32))), (0, .ref (ad 0 0))]) hx hb dX3_eligible_30 hl (k := 2) rfl rfl (by decide) rfl (fun ls hl => ?_)
        refine lv_goto (tgt := 4) hx hb dX3_eligible_33 (by decide) ?_
        exact ih (x1 ||| (0 : Int32)) (x2 + (1 : Int32)) _ _ hP hD hS _ (lv_sub hl [2, 1, 0] rfl) hm
      · have hm := ifn c_3 hm
        refine lv_iconst (v := 1) hx hb dX3_eligible_21 (by decide) ?_
        refine lv_iload_n hx hb dX3_eligible_22 rfl (lv_at hl 2 rfl) ?_
        refine lv_ishl hx hb dX3_eligible_23 ?_
        refine lv_goto (tgt := 28) hx hb dX3_eligible_24 (by decide) ?_
        refine lv_ior hx hb dX3_eligible_28 ?_
        refine lv_istore_n (lv' := [(1, .int (x1 ||| ((1 : Int32) <<< (x2 &&& 31)))), (0, .ref (ad 0 0)), (2, .int x2)]) hx hb dX3_eligible_29 rfl hl (by decide) rfl (fun ls hl => ?_)
        refine lv_iinc (v := (x2 + (1 : Int32))) (lv' := [(2, .int (x2 + (1 : Int32))), (1, .int (x1 ||| ((1 : Int32) <<< (x2 &&& 31)))), (0, .ref (ad 0 0))]) hx hb dX3_eligible_30 hl (k := 2) rfl rfl (by decide) rfl (fun ls hl => ?_)
        refine lv_goto (tgt := 4) hx hb dX3_eligible_33 (by decide) ?_
        exact ih (x1 ||| ((1 : Int32) <<< (x2 &&& 31))) (x2 + (1 : Int32)) _ _ hP hD hS _ (lv_sub hl [2, 1, 0] rfl) hm
def mX3_eligible (σ : ST) : Option (Int32) := kX3_eligible_4 σ FU ((0 : Int32), (0 : Int32))
set_option maxHeartbeats 4000000 in
set_option maxRecDepth 100000 in
theorem ctX3_eligible (l : Launch) (D : va_G) (cy : Nat → ClassId) (ad : Nat → Nat → Nat) (σ : ST)  (q : Int32) (hm : mX3_eligible σ = some q) : zMi l yX3_eligible wsX3_eligible rmX3_eligible D cy [.ref (ad 0 0)] (mw cy ad σ) q (mw cy ad σ) := by
  intro sz
  refine Met.ofW (cc := cX3_eligible) (maxL := 3) (ret := (some .int)) (by decide) rfl ?_
  intro p e s m args below meth c s₁ B hml hv
  obtain ⟨rfl, hsz, hP, hK, hD0⟩ := hv
  have hx := B.exec
  have hb := B.bytes
  have hr := B.returns
  have hts := atoms_spec (ws := wsX3_eligible) B.pre
  have hown : s.vm.findClass RX3 = some m.cls := findClass_of_methodNamed B.named
  have hlocks := B.notSynchronized
  subst hsz
  have hD := hD0.self (sz := s.heap.size)
  generalize hAe : va_A (mw cy ad σ) s.heap.size = A at hD ⊢
  have hA : ∀ q : Nat, s.heap.size ≤ q → A q := fun q h => by rw [← hAe]; exact Or.inr h
  have hS : va_S A s.heap s.heap [] := va_S.rf
  have C : Cx p s m _ meth c cX3_eligible 3 (some .int) RX3 wsX3_eligible D cy A := ⟨hx, hb, hml, hown, hts, hr, hlocks, hK, hA⟩
  have hl := lv_entry ([.ref (ad 0 0)]) (n := 3) (Nat.le_of_ble_eq_true rfl)
  rw [lg_entry_eq]
  generalize (lg_sl ([.ref (ad 0 0)]) ++ List.replicate (3 - (lg_sl ([.ref (ad 0 0)])).length) Slot.unset).toArray = ls at hl ⊢
  have hl : lv_has ls 3 [(0, .ref (ad 0 0))] := hl
  unfold mX3_eligible at hm
  refine lv_iconst (v := 0) hx hb dX3_eligible_0 (by decide) ?_
  refine lv_istore_n (lv' := [(1, .int (0 : Int32)), (0, .ref (ad 0 0))]) hx hb dX3_eligible_1 rfl hl (by decide) rfl (fun ls hl => ?_)
  refine lv_iconst (v := 0) hx hb dX3_eligible_2 (by decide) ?_
  refine lv_istore_n (lv' := [(2, .int (0 : Int32)), (1, .int (0 : Int32)), (0, .ref (ad 0 0))]) hx hb dX3_eligible_3 rfl hl (by decide) rfl (fun ls hl => ?_)
  exact kX3_eligible_4_ok C q σ FU (0 : Int32) (0 : Int32) _ _ hP hD hS _ (lv_sub hl [2, 1, 0] rfl) hm
abbrev rmX3_isAny : Room := { frames := 8, cells := 0, slots := 0, locals := 180 }
def mX3_isAny (σ : ST) : Option (Int32) := (mX3_eligible σ).bind fun q_1 => if q_1 = (0 : Int32) then (some (0 : Int32)) else (some (1 : Int32))
set_option maxHeartbeats 4000000 in
set_option maxRecDepth 100000 in
theorem ctX3_isAny (l : Launch) (D : va_G) (cy : Nat → ClassId) (ad : Nat → Nat → Nat) (σ : ST)  (q : Int32) (hm : mX3_isAny σ = some q) : zMi l yX3_isAny wsX3_isAny rmX3_isAny D cy [.ref (ad 0 0)] (mw cy ad σ) q (mw cy ad σ) := by
  intro sz
  refine Met.ofW (cc := cX3_isAny) (maxL := 1) (ret := (some .boolean)) (by decide) rfl ?_
  intro p e s m args below meth c s₁ B hml hv
  obtain ⟨rfl, hsz, hP, hK, hD0⟩ := hv
  have hx := B.exec
  have hb := B.bytes
  have hr := B.returns
  have hts := atoms_spec (ws := wsX3_isAny) B.pre
  have hown : s.vm.findClass RX3 = some m.cls := findClass_of_methodNamed B.named
  have hlocks := B.notSynchronized
  subst hsz
  have hD := hD0.self (sz := s.heap.size)
  generalize hAe : va_A (mw cy ad σ) s.heap.size = A at hD ⊢
  have hA : ∀ q : Nat, s.heap.size ≤ q → A q := fun q h => by rw [← hAe]; exact Or.inr h
  have hS : va_S A s.heap s.heap [] := va_S.rf
  have C : Cx p s m _ meth c cX3_isAny 1 (some .boolean) RX3 wsX3_isAny D cy A := ⟨hx, hb, hml, hown, hts, hr, hlocks, hK, hA⟩
  have hl := lv_entry ([.ref (ad 0 0)]) (n := 1) (Nat.le_of_ble_eq_true rfl)
  rw [lg_entry_eq]
  generalize (lg_sl ([.ref (ad 0 0)]) ++ List.replicate (1 - (lg_sl ([.ref (ad 0 0)])).length) Slot.unset).toArray = ls at hl ⊢
  have hl : lv_has ls 1 [(0, .ref (ad 0 0))] := hl
  unfold mX3_isAny at hm
  refine lv_aload_n hx hb dX3_isAny_0 rfl (lv_at hl 0 rfl) ?_
  obtain ⟨q_1, hq_1, hm⟩ := ob hm
  refine zc_i (zr_V [] [] ⟨hx, hb, hml, hown, hts⟩ (ctX3_eligible l D cy ad σ   q_1 hq_1 _) (cwV 0 hts gX3_isAny_X3_eligible rfl rfl rfl (by decide +kernel) ⟨Nat.le_of_ble_eq_true rfl, Nat.le_of_ble_eq_true rfl⟩) hK hP hD 0 mw_0 rfl rfl rfl hl.1 rfl (Nat.le_of_ble_eq_true rfl) dX3_isAny_1 ⟨Nat.zero_le _, Nat.zero_le _⟩) hD hS hA (fun H locs hP hD hS => ?_)
  refine lv_if_eq (tgt := 11) hx hb dX3_isAny_4 (by decide) (fun c_2 => ?_) (fun c_2 => ?_)
  · have hm := ifp c_2 hm
    refine lv_iconst (v := 0) hx hb dX3_isAny_11 (by decide) ?_
    exact z_pz hx hb hr hlocks (by decide) hm hP hD hS dX3_isAny_12
  · have hm := ifn c_2 hm
    refine lv_iconst (v := 1) hx hb dX3_isAny_7 (by decide) ?_
    refine lv_goto (tgt := 12) hx hb dX3_isAny_8 (by decide) ?_
    exact z_pz hx hb hr hlocks (by decide) hm hP hD hS dX3_isAny_12
abbrev rmX3_of : Room := { frames := 7, cells := 0, slots := 0, locals := 158 }
theorem lkX3_of_61 : Cond.fieldLink RX3 61 "DeliveryBasketModel" "thrown" "I" ∈ wsX3_of := by decide +kernel
theorem iwX3_of_X3 : ∀ w ∈ wsX30, w ∈ wsX3_of := fun _ h => List.mem_cons_of_mem _ (List.mem_append_right _ h)
def mX3_of (σ : ST) (a1 : Int32) (a2 : Int32) : Option (Int32 × ST) := sv (sI σ 0 0 10 (0 : Int32)) fun σ_1 => (mX3_isBond σ_1 a1).bind fun q_2 => if q_2 = (0 : Int32) then ((mX3_refuse σ_1).bind fun q_24 => some (q_24.1, q_24.2)) else (if a2 = (0 : Int32) then ((mX3_of1 σ_1 a1 a2).bind fun q_5 => some (q_5, σ_1)) else (if a2 = (1 : Int32) then ((mX3_of1 σ_1 a1 a2).bind fun q_7 => some (q_7, σ_1)) else (if a2 = (2 : Int32) then ((mX3_of1 σ_1 a1 a2).bind fun q_9 => some (q_9, σ_1)) else (if a2 = (3 : Int32) then ((mX3_of1 σ_1 a1 a2).bind fun q_11 => some (q_11, σ_1)) else (if a2 = (4 : Int32) then ((mX3_of1 σ_1 a1 a2).bind fun q_13 => some (q_13, σ_1)) else (if a2 = (5 : Int32) then ((mX3_of1 σ_1 a1 a2).bind fun q_15 => some (q_15, σ_1)) else (if a2 = (6 : Int32) then ((mX3_of1 σ_1 a1 a2).bind fun q_17 => some (q_17, σ_1)) else (if a2 = (7 : Int32) then ((mX3_factor σ_1 a1).bind fun q_19 => some ((Int64.toInt32 q_19), σ_1)) else (if a2 = (8 : Int32) then ((mX3_isEligible σ_1 a1).bind fun q_21 => if q_21 = (0 : Int32) then (some ((0 : Int32), σ_1)) else (some ((1 : Int32), σ_1))) else ((mX3_refuse σ_1).bind fun q_23 => some (q_23.1, q_23.2)))))))))))
set_option maxHeartbeats 4000000 in
set_option maxRecDepth 100000 in
theorem ctX3_of (l : Launch) (D : va_G) (cy : Nat → ClassId) (ad : Nat → Nat → Nat) (σ : ST) (a1 : Int32) (a2 : Int32) (q : Int32 × ST) (hm : mX3_of σ a1 a2 = some q) : zMi l yX3_of wsX3_of rmX3_of D cy [.ref (ad 0 0), .int a1, .int a2] (mw cy ad σ) q.1 (mw cy ad q.2) := by
  intro sz
  refine Met.ofW (cc := cX3_of) (maxL := 3) (ret := (some .int)) (by decide) rfl ?_
  intro p e s m args below meth c s₁ B hml hv
  obtain ⟨rfl, hsz, hP, hK, hD0⟩ := hv
  have hx := B.exec
  have hb := B.bytes
  have hr := B.returns
  have hts := atoms_spec (ws := wsX3_of) B.pre
  have hown : s.vm.findClass RX3 = some m.cls := findClass_of_methodNamed B.named
  have hlocks := B.notSynchronized
  subst hsz
  have hD := hD0.self (sz := s.heap.size)
  generalize hAe : va_A (mw cy ad σ) s.heap.size = A at hD ⊢
  have hA : ∀ q : Nat, s.heap.size ≤ q → A q := fun q h => by rw [← hAe]; exact Or.inr h
  have hS : va_S A s.heap s.heap [] := va_S.rf
  have C : Cx p s m _ meth c cX3_of 3 (some .int) RX3 wsX3_of D cy A := ⟨hx, hb, hml, hown, hts, hr, hlocks, hK, hA⟩
  have hl := lv_entry ([.ref (ad 0 0), .int a1, .int a2]) (n := 3) (Nat.le_of_ble_eq_true rfl)
  rw [lg_entry_eq]
  generalize (lg_sl ([.ref (ad 0 0), .int a1, .int a2]) ++ List.replicate (3 - (lg_sl ([.ref (ad 0 0), .int a1, .int a2])).length) Slot.unset).toArray = ls at hl ⊢
  have hl : lv_has ls 3 [(0, .ref (ad 0 0)), (1, .int a1), (2, .int a2)] := hl
  unfold mX3_of at hm
  refine lv_aload_n hx hb dX3_of_0 rfl (lv_at hl 0 rfl) ?_
  refine lv_iconst (v := 0) hx hb dX3_of_1 (by decide) ?_
  refine va_put (D := D) (ci := 3) (v := .int (0 : Int32)) (ty := .int) (C := RX3) (T := TX3) (N := 20) hx hb hts iwX3_of_X3 tyX3 tyX3_ok nmX3 hown hK.1 hP hD hS 0 mw_0 rfl 10 (by decide) (hts _ lkX3_of_61) (fun _ h9 => h9) rfl (by decide +kernel) rfl rfl (Nat.le_of_ble_eq_true rfl) dX3_of_2 (fun H locs hP hD hS => ?_)
  have hP := eP (mw_s0 (σ := σ) (j := 10) (v := (0 : Int32)) (by rfl)) hP
  have hD := eD (mw_s0 (σ := σ) (j := 10) (v := (0 : Int32)) (by rfl)) hD
  obtain ⟨σ_1, e_1, hm⟩ := sv_some hm
  have hP : va_P D vwCl (mw cy ad σ_1) H := by rw [e_1]; exact hP
  have hD : va_D A (mw cy ad σ_1) := by rw [e_1]; exact hD
  refine lv_aload_n hx hb dX3_of_5 rfl (lv_at hl 0 rfl) ?_
  refine lv_iload_n hx hb dX3_of_6 rfl (lv_at hl 1 rfl) ?_
  obtain ⟨q_2, hq_2, hm⟩ := ob hm
  refine zc_i (zr_V [.int a1] [] ⟨hx, hb, hml, hown, hts⟩ (ctX3_isBond l D cy ad σ_1  a1 q_2 hq_2 _) (cwV 1 hts gX3_of_X3_isBond rfl rfl rfl (by decide +kernel) ⟨Nat.le_of_ble_eq_true rfl, Nat.le_of_ble_eq_true rfl⟩) hK hP hD 0 mw_0 rfl rfl rfl hl.1 rfl (Nat.le_of_ble_eq_true rfl) dX3_of_7 ⟨Nat.zero_le _, Nat.zero_le _⟩) hD hS hA (fun H locs hP hD hS => ?_)
  refine lv_if_ne (tgt := 18) hx hb dX3_of_10 (by decide) (fun c_3 => ?_) (fun c_3 => ?_)
  · have hm := ifn c_3 hm
    refine lv_iload_n hx hb dX3_of_18 rfl (lv_at hl 2 rfl) ?_
    by_cases c_4 : a2 = (0 : Int32)
    · have hm := ifp c_4 hm
      refine lv_tableIn (off := 49) (tgt := 68) hx hb dX3_of_19 (by rw [c_4]; decide) (by rw [c_4]; decide) (by rw [c_4]; decide) (by decide) ?_
      refine lv_aload_n hx hb dX3_of_68 rfl (lv_at hl 0 rfl) ?_
      refine lv_iload_n hx hb dX3_of_69 rfl (lv_at hl 1 rfl) ?_
      refine lv_iload_n hx hb dX3_of_70 rfl (lv_at hl 2 rfl) ?_
      obtain ⟨q_5, hq_5, hm⟩ := ob hm
      refine zc_i (zr_V [.int a1, .int a2] [] ⟨hx, hb, hml, hown, hts⟩ (ctX3_of1 l D cy ad σ_1  a1 a2 q_5 hq_5 _) (cwV 2 hts gX3_of_X3_of1 rfl rfl rfl (by decide +kernel) ⟨Nat.le_of_ble_eq_true rfl, Nat.le_of_ble_eq_true rfl⟩) hK hP hD 0 mw_0 rfl rfl rfl hl.1 rfl (Nat.le_of_ble_eq_true rfl) dX3_of_71 ⟨Nat.zero_le _, Nat.zero_le _⟩) hD hS hA (fun H locs hP hD hS => ?_)
      exact z_i hx hb hr hlocks hm hP hD hS dX3_of_74
    · have hm := ifn c_4 hm
      by_cases c_6 : a2 = (1 : Int32)
      · have hm := ifp c_6 hm
        refine lv_tableIn (off := 49) (tgt := 68) hx hb dX3_of_19 (by rw [c_6]; decide) (by rw [c_6]; decide) (by rw [c_6]; decide) (by decide) ?_
        refine lv_aload_n hx hb dX3_of_68 rfl (lv_at hl 0 rfl) ?_
        refine lv_iload_n hx hb dX3_of_69 rfl (lv_at hl 1 rfl) ?_
        refine lv_iload_n hx hb dX3_of_70 rfl (lv_at hl 2 rfl) ?_
        obtain ⟨q_7, hq_7, hm⟩ := ob hm
        refine zc_i (zr_V [.int a1, .int a2] [] ⟨hx, hb, hml, hown, hts⟩ (ctX3_of1 l D cy ad σ_1  a1 a2 q_7 hq_7 _) (cwV 2 hts gX3_of_X3_of1 rfl rfl rfl (by decide +kernel) ⟨Nat.le_of_ble_eq_true rfl, Nat.le_of_ble_eq_true rfl⟩) hK hP hD 0 mw_0 rfl rfl rfl hl.1 rfl (Nat.le_of_ble_eq_true rfl) dX3_of_71 ⟨Nat.zero_le _, Nat.zero_le _⟩) hD hS hA (fun H locs hP hD hS => ?_)
        exact z_i hx hb hr hlocks hm hP hD hS dX3_of_74
      · have hm := ifn c_6 hm
        by_cases c_8 : a2 = (2 : Int32)
        · have hm := ifp c_8 hm
          refine lv_tableIn (off := 49) (tgt := 68) hx hb dX3_of_19 (by rw [c_8]; decide) (by rw [c_8]; decide) (by rw [c_8]; decide) (by decide) ?_
          refine lv_aload_n hx hb dX3_of_68 rfl (lv_at hl 0 rfl) ?_
          refine lv_iload_n hx hb dX3_of_69 rfl (lv_at hl 1 rfl) ?_
          refine lv_iload_n hx hb dX3_of_70 rfl (lv_at hl 2 rfl) ?_
          obtain ⟨q_9, hq_9, hm⟩ := ob hm
          refine zc_i (zr_V [.int a1, .int a2] [] ⟨hx, hb, hml, hown, hts⟩ (ctX3_of1 l D cy ad σ_1  a1 a2 q_9 hq_9 _) (cwV 2 hts gX3_of_X3_of1 rfl rfl rfl (by decide +kernel) ⟨Nat.le_of_ble_eq_true rfl, Nat.le_of_ble_eq_true rfl⟩) hK hP hD 0 mw_0 rfl rfl rfl hl.1 rfl (Nat.le_of_ble_eq_true rfl) dX3_of_71 ⟨Nat.zero_le _, Nat.zero_le _⟩) hD hS hA (fun H locs hP hD hS => ?_)
          exact z_i hx hb hr hlocks hm hP hD hS dX3_of_74
        · have hm := ifn c_8 hm
          by_cases c_10 : a2 = (3 : Int32)
          · have hm := ifp c_10 hm
            refine lv_tableIn (off := 49) (tgt := 68) hx hb dX3_of_19 (by rw [c_10]; decide) (by rw [c_10]; decide) (by rw [c_10]; decide) (by decide) ?_
            refine lv_aload_n hx hb dX3_of_68 rfl (lv_at hl 0 rfl) ?_
            refine lv_iload_n hx hb dX3_of_69 rfl (lv_at hl 1 rfl) ?_
            refine lv_iload_n hx hb dX3_of_70 rfl (lv_at hl 2 rfl) ?_
            obtain ⟨q_11, hq_11, hm⟩ := ob hm
            refine zc_i (zr_V [.int a1, .int a2] [] ⟨hx, hb, hml, hown, hts⟩ (ctX3_of1 l D cy ad σ_1  a1 a2 q_11 hq_11 _) (cwV 2 hts gX3_of_X3_of1 rfl rfl rfl (by decide +kernel) ⟨Nat.le_of_ble_eq_true rfl, Nat.le_of_ble_eq_true rfl⟩) hK hP hD 0 mw_0 rfl rfl rfl hl.1 rfl (Nat.le_of_ble_eq_true rfl) dX3_of_71 ⟨Nat.zero_le _, Nat.zero_le _⟩) hD hS hA (fun H locs hP hD hS => ?_)
            exact z_i hx hb hr hlocks hm hP hD hS dX3_of_74
          · have hm := ifn c_10 hm
            by_cases c_12 : a2 = (4 : Int32)
            · have hm := ifp c_12 hm
              refine lv_tableIn (off := 49) (tgt := 68) hx hb dX3_of_19 (by rw [c_12]; decide) (by rw [c_12]; decide) (by rw [c_12]; decide) (by decide) ?_
              refine lv_aload_n hx hb dX3_of_68 rfl (lv_at hl 0 rfl) ?_
              refine lv_iload_n hx hb dX3_of_69 rfl (lv_at hl 1 rfl) ?_
              refine lv_iload_n hx hb dX3_of_70 rfl (lv_at hl 2 rfl) ?_
              obtain ⟨q_13, hq_13, hm⟩ := ob hm
              refine zc_i (zr_V [.int a1, .int a2] [] ⟨hx, hb, hml, hown, hts⟩ (ctX3_of1 l D cy ad σ_1  a1 a2 q_13 hq_13 _) (cwV 2 hts gX3_of_X3_of1 rfl rfl rfl (by decide +kernel) ⟨Nat.le_of_ble_eq_true rfl, Nat.le_of_ble_eq_true rfl⟩) hK hP hD 0 mw_0 rfl rfl rfl hl.1 rfl (Nat.le_of_ble_eq_true rfl) dX3_of_71 ⟨Nat.zero_le _, Nat.zero_le _⟩) hD hS hA (fun H locs hP hD hS => ?_)
              exact z_i hx hb hr hlocks hm hP hD hS dX3_of_74
            · have hm := ifn c_12 hm
              by_cases c_14 : a2 = (5 : Int32)
              · have hm := ifp c_14 hm
                refine lv_tableIn (off := 49) (tgt := 68) hx hb dX3_of_19 (by rw [c_14]; decide) (by rw [c_14]; decide) (by rw [c_14]; decide) (by decide) ?_
                refine lv_aload_n hx hb dX3_of_68 rfl (lv_at hl 0 rfl) ?_
                refine lv_iload_n hx hb dX3_of_69 rfl (lv_at hl 1 rfl) ?_
                refine lv_iload_n hx hb dX3_of_70 rfl (lv_at hl 2 rfl) ?_
                obtain ⟨q_15, hq_15, hm⟩ := ob hm
                refine zc_i (zr_V [.int a1, .int a2] [] ⟨hx, hb, hml, hown, hts⟩ (ctX3_of1 l D cy ad σ_1  a1 a2 q_15 hq_15 _) (cwV 2 hts gX3_of_X3_of1 rfl rfl rfl (by decide +kernel) ⟨Nat.le_of_ble_eq_true rfl, Nat.le_of_ble_eq_true rfl⟩) hK hP hD 0 mw_0 rfl rfl rfl hl.1 rfl (Nat.le_of_ble_eq_true rfl) dX3_of_71 ⟨Nat.zero_le _, Nat.zero_le _⟩) hD hS hA (fun H locs hP hD hS => ?_)
                exact z_i hx hb hr hlocks hm hP hD hS dX3_of_74
              · have hm := ifn c_14 hm
                by_cases c_16 : a2 = (6 : Int32)
                · have hm := ifp c_16 hm
                  refine lv_tableIn (off := 49) (tgt := 68) hx hb dX3_of_19 (by rw [c_16]; decide) (by rw [c_16]; decide) (by rw [c_16]; decide) (by decide) ?_
                  refine lv_aload_n hx hb dX3_of_68 rfl (lv_at hl 0 rfl) ?_
                  refine lv_iload_n hx hb dX3_of_69 rfl (lv_at hl 1 rfl) ?_
                  refine lv_iload_n hx hb dX3_of_70 rfl (lv_at hl 2 rfl) ?_
                  obtain ⟨q_17, hq_17, hm⟩ := ob hm
                  refine zc_i (zr_V [.int a1, .int a2] [] ⟨hx, hb, hml, hown, hts⟩ (ctX3_of1 l D cy ad σ_1  a1 a2 q_17 hq_17 _) (cwV 2 hts gX3_of_X3_of1 rfl rfl rfl (by decide +kernel) ⟨Nat.le_of_ble_eq_true rfl, Nat.le_of_ble_eq_true rfl⟩) hK hP hD 0 mw_0 rfl rfl rfl hl.1 rfl (Nat.le_of_ble_eq_true rfl) dX3_of_71 ⟨Nat.zero_le _, Nat.zero_le _⟩) hD hS hA (fun H locs hP hD hS => ?_)
                  exact z_i hx hb hr hlocks hm hP hD hS dX3_of_74
                · have hm := ifn c_16 hm
                  by_cases c_18 : a2 = (7 : Int32)
                  · have hm := ifp c_18 hm
                    refine lv_tableIn (off := 56) (tgt := 75) hx hb dX3_of_19 (by rw [c_18]; decide) (by rw [c_18]; decide) (by rw [c_18]; decide) (by decide) ?_
                    refine lv_aload_n hx hb dX3_of_75 rfl (lv_at hl 0 rfl) ?_
                    refine lv_iload_n hx hb dX3_of_76 rfl (lv_at hl 1 rfl) ?_
                    obtain ⟨q_19, hq_19, hm⟩ := ob hm
                    refine zc_l (zr_V [.int a1] [] ⟨hx, hb, hml, hown, hts⟩ (ctX3_factor l D cy ad σ_1  a1 q_19 hq_19 _) (cwV 1 hts gX3_of_X3_factor rfl rfl rfl (by decide +kernel) ⟨Nat.le_of_ble_eq_true rfl, Nat.le_of_ble_eq_true rfl⟩) hK hP hD 0 mw_0 rfl rfl rfl hl.1 rfl (Nat.le_of_ble_eq_true rfl) dX3_of_77 ⟨Nat.zero_le _, Nat.zero_le _⟩) hD hS hA (fun H locs hP hD hS => ?_)
                    refine lv_l2i hx hb dX3_of_80 rfl ?_
                    exact z_i hx hb hr hlocks hm hP hD hS dX3_of_81
                  · have hm := ifn c_18 hm
                    by_cases c_20 : a2 = (8 : Int32)
                    · have hm := ifp c_20 hm
                      refine lv_tableIn (off := 63) (tgt := 82) hx hb dX3_of_19 (by rw [c_20]; decide) (by rw [c_20]; decide) (by rw [c_20]; decide) (by decide) ?_
                      refine lv_aload_n hx hb dX3_of_82 rfl (lv_at hl 0 rfl) ?_
                      refine lv_iload_n hx hb dX3_of_83 rfl (lv_at hl 1 rfl) ?_
                      obtain ⟨q_21, hq_21, hm⟩ := ob hm
                      refine zc_i (zr_V [.int a1] [] ⟨hx, hb, hml, hown, hts⟩ (ctX3_isEligible l D cy ad σ_1  a1 q_21 hq_21 _) (cwV 1 hts gX3_of_X3_isEligible rfl rfl rfl (by decide +kernel) ⟨Nat.le_of_ble_eq_true rfl, Nat.le_of_ble_eq_true rfl⟩) hK hP hD 0 mw_0 rfl rfl rfl hl.1 rfl (Nat.le_of_ble_eq_true rfl) dX3_of_84 ⟨Nat.zero_le _, Nat.zero_le _⟩) hD hS hA (fun H locs hP hD hS => ?_)
                      refine lv_if_eq (tgt := 94) hx hb dX3_of_87 (by decide) (fun c_22 => ?_) (fun c_22 => ?_)
                      · have hm := ifp c_22 hm
                        refine lv_iconst (v := 0) hx hb dX3_of_94 (by decide) ?_
                        exact z_i hx hb hr hlocks hm hP hD hS dX3_of_95
                      · have hm := ifn c_22 hm
                        refine lv_iconst (v := 1) hx hb dX3_of_90 (by decide) ?_
                        refine lv_goto (tgt := 95) hx hb dX3_of_91 (by decide) ?_
                        exact z_i hx hb hr hlocks hm hP hD hS dX3_of_95
                    · have hm := ifn c_20 hm
                      refine lv_tableOut (tgt := 96) hx hb dX3_of_19 (sw_out (fun i h1 h2 q => ?_)) (by decide) ?_
                      · have n_0 := lv_neT (a := 0) c_4 rfl
                        have n_1 := lv_neT (a := 1) c_6 rfl
                        have n_2 := lv_neT (a := 2) c_8 rfl
                        have n_3 := lv_neT (a := 3) c_10 rfl
                        have n_4 := lv_neT (a := 4) c_12 rfl
                        have n_5 := lv_neT (a := 5) c_14 rfl
                        have n_6 := lv_neT (a := 6) c_16 rfl
                        have n_7 := lv_neT (a := 7) c_18 rfl
                        have n_8 := lv_neT (a := 8) c_20 rfl
                        omega
                      refine lv_aload_n hx hb dX3_of_96 rfl (lv_at hl 0 rfl) ?_
                      obtain ⟨q_23, hq_23, hm⟩ := ob hm
                      refine zc_i (zr_V [] [] ⟨hx, hb, hml, hown, hts⟩ (ctX3_refuse l D cy ad σ_1   q_23 hq_23 _) (cwV 0 hts gX3_of_X3_refuse rfl rfl rfl (by decide +kernel) ⟨Nat.le_of_ble_eq_true rfl, Nat.le_of_ble_eq_true rfl⟩) hK hP hD 0 mw_0 rfl rfl rfl hl.1 rfl (Nat.le_of_ble_eq_true rfl) dX3_of_97 ⟨Nat.zero_le _, Nat.zero_le _⟩) hD hS hA (fun H locs hP hD hS => ?_)
                      exact z_i hx hb hr hlocks hm hP hD hS dX3_of_100
  · have hm := ifp c_3 hm
    refine lv_aload_n hx hb dX3_of_13 rfl (lv_at hl 0 rfl) ?_
    obtain ⟨q_24, hq_24, hm⟩ := ob hm
    refine zc_i (zr_V [] [] ⟨hx, hb, hml, hown, hts⟩ (ctX3_refuse l D cy ad σ_1   q_24 hq_24 _) (cwV 0 hts gX3_of_X3_refuse rfl rfl rfl (by decide +kernel) ⟨Nat.le_of_ble_eq_true rfl, Nat.le_of_ble_eq_true rfl⟩) hK hP hD 0 mw_0 rfl rfl rfl hl.1 rfl (Nat.le_of_ble_eq_true rfl) dX3_of_14 ⟨Nat.zero_le _, Nat.zero_le _⟩) hD hS hA (fun H locs hP hD hS => ?_)
    exact z_i hx hb hr hlocks hm hP hD hS dX3_of_17
abbrev rmX3_flow : Room := { frames := 4, cells := 0, slots := 0, locals := 91 }
theorem lkX3_flow_61 : Cond.fieldLink RX3 61 "DeliveryBasketModel" "thrown" "I" ∈ wsX3_flow := by decide +kernel
theorem iwX3_flow_X3 : ∀ w ∈ wsX30, w ∈ wsX3_flow := fun _ h => List.mem_cons_of_mem _ (List.mem_append_right _ h)
def mX3_flow (σ : ST) (a1 : Int32) (a2 : Int32) : Option (Int32 × ST) := sv (sI σ 0 0 10 (0 : Int32)) fun σ_1 => (mX3_isBond σ_1 a1).bind fun q_2 => if q_2 = (0 : Int32) then (some ((-1 : Int32), σ_1)) else ((mX3_of1 σ_1 a1 (2 : Int32)).bind fun q_4 => (mX3_isIn (Int32.toInt64 a2) (1 : Int64) (Int32.toInt64 q_4)).bind fun q_5 => if q_5 = (0 : Int32) then (some ((-1 : Int32), σ_1)) else ((mX3_flow1 σ_1 a1 a2).bind fun q_7 => some ((Int64.toInt32 q_7), σ_1)))
set_option maxHeartbeats 4000000 in
set_option maxRecDepth 100000 in
theorem ctX3_flow (l : Launch) (D : va_G) (cy : Nat → ClassId) (ad : Nat → Nat → Nat) (σ : ST) (a1 : Int32) (a2 : Int32) (q : Int32 × ST) (hm : mX3_flow σ a1 a2 = some q) : zMi l yX3_flow wsX3_flow rmX3_flow D cy [.ref (ad 0 0), .int a1, .int a2] (mw cy ad σ) q.1 (mw cy ad q.2) := by
  intro sz
  refine Met.ofW (cc := cX3_flow) (maxL := 3) (ret := (some .int)) (by decide) rfl ?_
  intro p e s m args below meth c s₁ B hml hv
  obtain ⟨rfl, hsz, hP, hK, hD0⟩ := hv
  have hx := B.exec
  have hb := B.bytes
  have hr := B.returns
  have hts := atoms_spec (ws := wsX3_flow) B.pre
  have hown : s.vm.findClass RX3 = some m.cls := findClass_of_methodNamed B.named
  have hlocks := B.notSynchronized
  subst hsz
  have hD := hD0.self (sz := s.heap.size)
  generalize hAe : va_A (mw cy ad σ) s.heap.size = A at hD ⊢
  have hA : ∀ q : Nat, s.heap.size ≤ q → A q := fun q h => by rw [← hAe]; exact Or.inr h
  have hS : va_S A s.heap s.heap [] := va_S.rf
  have C : Cx p s m _ meth c cX3_flow 3 (some .int) RX3 wsX3_flow D cy A := ⟨hx, hb, hml, hown, hts, hr, hlocks, hK, hA⟩
  have hl := lv_entry ([.ref (ad 0 0), .int a1, .int a2]) (n := 3) (Nat.le_of_ble_eq_true rfl)
  rw [lg_entry_eq]
  generalize (lg_sl ([.ref (ad 0 0), .int a1, .int a2]) ++ List.replicate (3 - (lg_sl ([.ref (ad 0 0), .int a1, .int a2])).length) Slot.unset).toArray = ls at hl ⊢
  have hl : lv_has ls 3 [(0, .ref (ad 0 0)), (1, .int a1), (2, .int a2)] := hl
  unfold mX3_flow at hm
  refine lv_aload_n hx hb dX3_flow_0 rfl (lv_at hl 0 rfl) ?_
  refine lv_iconst (v := 0) hx hb dX3_flow_1 (by decide) ?_
  refine va_put (D := D) (ci := 3) (v := .int (0 : Int32)) (ty := .int) (C := RX3) (T := TX3) (N := 20) hx hb hts iwX3_flow_X3 tyX3 tyX3_ok nmX3 hown hK.1 hP hD hS 0 mw_0 rfl 10 (by decide) (hts _ lkX3_flow_61) (fun _ h9 => h9) rfl (by decide +kernel) rfl rfl (Nat.le_of_ble_eq_true rfl) dX3_flow_2 (fun H locs hP hD hS => ?_)
  have hP := eP (mw_s0 (σ := σ) (j := 10) (v := (0 : Int32)) (by rfl)) hP
  have hD := eD (mw_s0 (σ := σ) (j := 10) (v := (0 : Int32)) (by rfl)) hD
  obtain ⟨σ_1, e_1, hm⟩ := sv_some hm
  have hP : va_P D vwCl (mw cy ad σ_1) H := by rw [e_1]; exact hP
  have hD : va_D A (mw cy ad σ_1) := by rw [e_1]; exact hD
  refine lv_aload_n hx hb dX3_flow_5 rfl (lv_at hl 0 rfl) ?_
  refine lv_iload_n hx hb dX3_flow_6 rfl (lv_at hl 1 rfl) ?_
  obtain ⟨q_2, hq_2, hm⟩ := ob hm
  refine zc_i (zr_V [.int a1] [] ⟨hx, hb, hml, hown, hts⟩ (ctX3_isBond l D cy ad σ_1  a1 q_2 hq_2 _) (cwV 1 hts gX3_flow_X3_isBond rfl rfl rfl (by decide +kernel) ⟨Nat.le_of_ble_eq_true rfl, Nat.le_of_ble_eq_true rfl⟩) hK hP hD 0 mw_0 rfl rfl rfl hl.1 rfl (Nat.le_of_ble_eq_true rfl) dX3_flow_7 ⟨Nat.zero_le _, Nat.zero_le _⟩) hD hS hA (fun H locs hP hD hS => ?_)
  refine lv_if_eq (tgt := 39) hx hb dX3_flow_10 (by decide) (fun c_3 => ?_) (fun c_3 => ?_)
  · have hm := ifp c_3 hm
    refine lv_iconst (v := -1) hx hb dX3_flow_39 (by decide) ?_
    exact z_i hx hb hr hlocks hm hP hD hS dX3_flow_40
  · have hm := ifn c_3 hm
    refine lv_iload_n hx hb dX3_flow_13 rfl (lv_at hl 2 rfl) ?_
    refine lv_i2l hx hb dX3_flow_14 rfl ?_
    refine lv_lconst (v := 1) hx hb dX3_flow_15 (by decide) ?_
    refine lv_aload_n hx hb dX3_flow_16 rfl (lv_at hl 0 rfl) ?_
    refine lv_iload_n hx hb dX3_flow_17 rfl (lv_at hl 1 rfl) ?_
    refine lv_iconst (v := 2) hx hb dX3_flow_18 (by decide) ?_
    obtain ⟨q_4, hq_4, hm⟩ := ob hm
    refine zc_i (zr_V [.int a1, .int (2 : Int32)] [.long (1 : Int64), .long (Int32.toInt64 a2)] ⟨hx, hb, hml, hown, hts⟩ (ctX3_of1 l D cy ad σ_1  a1 (2 : Int32) q_4 hq_4 _) (cwV 2 hts gX3_flow_X3_of1 rfl rfl rfl (by decide +kernel) ⟨Nat.le_of_ble_eq_true rfl, Nat.le_of_ble_eq_true rfl⟩) hK hP hD 0 mw_0 rfl rfl rfl hl.1 rfl (Nat.le_of_ble_eq_true rfl) dX3_flow_19 ⟨Nat.zero_le _, Nat.zero_le _⟩) hD hS hA (fun H locs hP hD hS => ?_)
    refine lv_i2l hx hb dX3_flow_22 rfl ?_
    obtain ⟨q_5, hq_5, hm⟩ := ob hm
    refine zc_i (zr_S [.long (Int32.toInt64 a2), .long (1 : Int64), .long (Int32.toInt64 q_4)] [] ⟨hx, hb, hml, hown, hts⟩ (ctX3_isIn l D cy (mw cy ad σ_1)  (Int32.toInt64 a2) (1 : Int64) (Int32.toInt64 q_4) q_5 hq_5 _) (va_cwS 3 hts gX3_flow_X3_isIn rfl rfl rfl (by decide +kernel) ⟨Nat.le_of_ble_eq_true rfl, Nat.le_of_ble_eq_true rfl⟩) hK hP hD rfl hl.1 rfl (Nat.le_of_ble_eq_true rfl) dX3_flow_23 ⟨Nat.zero_le _, Nat.zero_le _⟩) hD hS hA (fun H locs hP hD hS => ?_)
    refine lv_if_eq (tgt := 39) hx hb dX3_flow_26 (by decide) (fun c_6 => ?_) (fun c_6 => ?_)
    · have hm := ifp c_6 hm
      refine lv_iconst (v := -1) hx hb dX3_flow_39 (by decide) ?_
      exact z_i hx hb hr hlocks hm hP hD hS dX3_flow_40
    · have hm := ifn c_6 hm
      refine lv_aload_n hx hb dX3_flow_29 rfl (lv_at hl 0 rfl) ?_
      refine lv_iload_n hx hb dX3_flow_30 rfl (lv_at hl 1 rfl) ?_
      refine lv_iload_n hx hb dX3_flow_31 rfl (lv_at hl 2 rfl) ?_
      obtain ⟨q_7, hq_7, hm⟩ := ob hm
      refine zc_l (zr_V [.int a1, .int a2] [] ⟨hx, hb, hml, hown, hts⟩ (ctX3_flow1 l D cy ad σ_1  a1 a2 q_7 hq_7 _) (cwV 2 hts gX3_flow_X3_flow1 rfl rfl rfl (by decide +kernel) ⟨Nat.le_of_ble_eq_true rfl, Nat.le_of_ble_eq_true rfl⟩) hK hP hD 0 mw_0 rfl rfl rfl hl.1 rfl (Nat.le_of_ble_eq_true rfl) dX3_flow_32 ⟨Nat.zero_le _, Nat.zero_le _⟩) hD hS hA (fun H locs hP hD hS => ?_)
      refine lv_l2i hx hb dX3_flow_35 rfl ?_
      refine lv_goto (tgt := 40) hx hb dX3_flow_36 (by decide) ?_
      exact z_i hx hb hr hlocks hm hP hD hS dX3_flow_40
abbrev rmX3_price : Room := { frames := 6, cells := 0, slots := 0, locals := 139 }
theorem lkX3_price_61 : Cond.fieldLink RX3 61 "DeliveryBasketModel" "thrown" "I" ∈ wsX3_price := by decide +kernel
theorem iwX3_price_X3 : ∀ w ∈ wsX30, w ∈ wsX3_price := fun _ h => List.mem_cons_of_mem _ (List.mem_append_right _ h)
def mX3_price (σ : ST) (a1 : Int32) (a2 : Int32) : Option (Int32 × ST) := sv (sI σ 0 0 10 (0 : Int32)) fun σ_1 => (mX3_isBond σ_1 a1).bind fun q_2 => if q_2 = (0 : Int32) then (some ((-1 : Int32), σ_1)) else ((mX3_isRate a2).bind fun q_4 => if q_4 = (0 : Int32) then (some ((-1 : Int32), σ_1)) else ((mX3_price1 σ_1 a1 a2).bind fun q_6 => some ((Int64.toInt32 q_6), σ_1)))
set_option maxHeartbeats 4000000 in
set_option maxRecDepth 100000 in
theorem ctX3_price (l : Launch) (D : va_G) (cy : Nat → ClassId) (ad : Nat → Nat → Nat) (σ : ST) (a1 : Int32) (a2 : Int32) (q : Int32 × ST) (hm : mX3_price σ a1 a2 = some q) : zMi l yX3_price wsX3_price rmX3_price D cy [.ref (ad 0 0), .int a1, .int a2] (mw cy ad σ) q.1 (mw cy ad q.2) := by
  intro sz
  refine Met.ofW (cc := cX3_price) (maxL := 3) (ret := (some .int)) (by decide) rfl ?_
  intro p e s m args below meth c s₁ B hml hv
  obtain ⟨rfl, hsz, hP, hK, hD0⟩ := hv
  have hx := B.exec
  have hb := B.bytes
  have hr := B.returns
  have hts := atoms_spec (ws := wsX3_price) B.pre
  have hown : s.vm.findClass RX3 = some m.cls := findClass_of_methodNamed B.named
  have hlocks := B.notSynchronized
  subst hsz
  have hD := hD0.self (sz := s.heap.size)
  generalize hAe : va_A (mw cy ad σ) s.heap.size = A at hD ⊢
  have hA : ∀ q : Nat, s.heap.size ≤ q → A q := fun q h => by rw [← hAe]; exact Or.inr h
  have hS : va_S A s.heap s.heap [] := va_S.rf
  have C : Cx p s m _ meth c cX3_price 3 (some .int) RX3 wsX3_price D cy A := ⟨hx, hb, hml, hown, hts, hr, hlocks, hK, hA⟩
  have hl := lv_entry ([.ref (ad 0 0), .int a1, .int a2]) (n := 3) (Nat.le_of_ble_eq_true rfl)
  rw [lg_entry_eq]
  generalize (lg_sl ([.ref (ad 0 0), .int a1, .int a2]) ++ List.replicate (3 - (lg_sl ([.ref (ad 0 0), .int a1, .int a2])).length) Slot.unset).toArray = ls at hl ⊢
  have hl : lv_has ls 3 [(0, .ref (ad 0 0)), (1, .int a1), (2, .int a2)] := hl
  unfold mX3_price at hm
  refine lv_aload_n hx hb dX3_price_0 rfl (lv_at hl 0 rfl) ?_
  refine lv_iconst (v := 0) hx hb dX3_price_1 (by decide) ?_
  refine va_put (D := D) (ci := 3) (v := .int (0 : Int32)) (ty := .int) (C := RX3) (T := TX3) (N := 20) hx hb hts iwX3_price_X3 tyX3 tyX3_ok nmX3 hown hK.1 hP hD hS 0 mw_0 rfl 10 (by decide) (hts _ lkX3_price_61) (fun _ h9 => h9) rfl (by decide +kernel) rfl rfl (Nat.le_of_ble_eq_true rfl) dX3_price_2 (fun H locs hP hD hS => ?_)
  have hP := eP (mw_s0 (σ := σ) (j := 10) (v := (0 : Int32)) (by rfl)) hP
  have hD := eD (mw_s0 (σ := σ) (j := 10) (v := (0 : Int32)) (by rfl)) hD
  obtain ⟨σ_1, e_1, hm⟩ := sv_some hm
  have hP : va_P D vwCl (mw cy ad σ_1) H := by rw [e_1]; exact hP
  have hD : va_D A (mw cy ad σ_1) := by rw [e_1]; exact hD
  refine lv_aload_n hx hb dX3_price_5 rfl (lv_at hl 0 rfl) ?_
  refine lv_iload_n hx hb dX3_price_6 rfl (lv_at hl 1 rfl) ?_
  obtain ⟨q_2, hq_2, hm⟩ := ob hm
  refine zc_i (zr_V [.int a1] [] ⟨hx, hb, hml, hown, hts⟩ (ctX3_isBond l D cy ad σ_1  a1 q_2 hq_2 _) (cwV 1 hts gX3_price_X3_isBond rfl rfl rfl (by decide +kernel) ⟨Nat.le_of_ble_eq_true rfl, Nat.le_of_ble_eq_true rfl⟩) hK hP hD 0 mw_0 rfl rfl rfl hl.1 rfl (Nat.le_of_ble_eq_true rfl) dX3_price_7 ⟨Nat.zero_le _, Nat.zero_le _⟩) hD hS hA (fun H locs hP hD hS => ?_)
  refine lv_if_eq (tgt := 30) hx hb dX3_price_10 (by decide) (fun c_3 => ?_) (fun c_3 => ?_)
  · have hm := ifp c_3 hm
    refine lv_iconst (v := -1) hx hb dX3_price_30 (by decide) ?_
    exact z_i hx hb hr hlocks hm hP hD hS dX3_price_31
  · have hm := ifn c_3 hm
    refine lv_iload_n hx hb dX3_price_13 rfl (lv_at hl 2 rfl) ?_
    obtain ⟨q_4, hq_4, hm⟩ := ob hm
    refine zc_i (zr_S [.int a2] [] ⟨hx, hb, hml, hown, hts⟩ (ctX3_isRate l D cy (mw cy ad σ_1)  a2 q_4 hq_4 _) (va_cwS 1 hts gX3_price_X3_isRate rfl rfl rfl (by decide +kernel) ⟨Nat.le_of_ble_eq_true rfl, Nat.le_of_ble_eq_true rfl⟩) hK hP hD rfl hl.1 rfl (Nat.le_of_ble_eq_true rfl) dX3_price_14 ⟨Nat.zero_le _, Nat.zero_le _⟩) hD hS hA (fun H locs hP hD hS => ?_)
    refine lv_if_eq (tgt := 30) hx hb dX3_price_17 (by decide) (fun c_5 => ?_) (fun c_5 => ?_)
    · have hm := ifp c_5 hm
      refine lv_iconst (v := -1) hx hb dX3_price_30 (by decide) ?_
      exact z_i hx hb hr hlocks hm hP hD hS dX3_price_31
    · have hm := ifn c_5 hm
      refine lv_aload_n hx hb dX3_price_20 rfl (lv_at hl 0 rfl) ?_
      refine lv_iload_n hx hb dX3_price_21 rfl (lv_at hl 1 rfl) ?_
      refine lv_iload_n hx hb dX3_price_22 rfl (lv_at hl 2 rfl) ?_
      obtain ⟨q_6, hq_6, hm⟩ := ob hm
      refine zc_l (zr_V [.int a1, .int a2] [] ⟨hx, hb, hml, hown, hts⟩ (ctX3_price1 l D cy ad σ_1  a1 a2 q_6 hq_6 _) (cwV 2 hts gX3_price_X3_price1 rfl rfl rfl (by decide +kernel) ⟨Nat.le_of_ble_eq_true rfl, Nat.le_of_ble_eq_true rfl⟩) hK hP hD 0 mw_0 rfl rfl rfl hl.1 rfl (Nat.le_of_ble_eq_true rfl) dX3_price_23 ⟨Nat.zero_le _, Nat.zero_le _⟩) hD hS hA (fun H locs hP hD hS => ?_)
      refine lv_l2i hx hb dX3_price_26 rfl ?_
      refine lv_goto (tgt := 31) hx hb dX3_price_27 (by decide) ?_
      exact z_i hx hb hr hlocks hm hP hD hS dX3_price_31
abbrev rmX3_rateOf : Room := { frames := 6, cells := 0, slots := 0, locals := 139 }
theorem lkX3_rateOf_61 : Cond.fieldLink RX3 61 "DeliveryBasketModel" "thrown" "I" ∈ wsX3_rateOf := by decide +kernel
theorem iwX3_rateOf_X3 : ∀ w ∈ wsX30, w ∈ wsX3_rateOf := fun _ h => List.mem_cons_of_mem _ (List.mem_append_right _ h)
def bkX3_rateOf_17  (rec : ST × Int32 × Int32 × Int32 → Option (Int32 × ST)) (σ : ST) (x1 : Int32) (x2 : Int32) (x3 : Int32) : Option (Int32 × ST) := if (3000 : Int32) < x3 then (some ((-1 : Int32), σ)) else ((mX3_price1 σ x1 x3).bind fun q_2 => if (0 : Int32) < (lg_cmp q_2 (Int32.toInt64 x2)) then (rec (σ, x1, x2, (x3 + (1 : Int32)))) else (some (x3, σ)))
def kX3_rateOf_17  (n : Nat) (a : ST × Int32 × Int32 × Int32) : Option (Int32 × ST) := fx (fun rec a => bkX3_rateOf_17  rec a.1 a.2.1 a.2.2.1 a.2.2.2) n a
set_option maxHeartbeats 4000000 in
set_option maxRecDepth 100000 in
theorem kX3_rateOf_17_ok {p : Program} {l : Launch} {e : Env} {s : State} {m : MethodId} {args : Array Value} {below : List Frame} {meth : Method} {c : Code} {D : va_G} {cy : Nat → ClassId} {ad : Nat → Nat → Nat} {A : Nat → Prop} (C : Cx p s m args meth c cX3_rateOf 4 (some .int) RX3 wsX3_rateOf D cy A) (q : Int32 × ST) : ∀ (n : Nat) (σ : ST) (x1 : Int32) (x2 : Int32) (x3 : Int32), ∀ (H : Heap) (locs : List Loc), va_P D vwCl (mw cy ad σ) H → va_D A (mw cy ad σ) → va_S A s.heap H locs → ∀ ls : Array Slot, lv_has ls 4 [(0, .ref (ad 0 0)), (1, .int x1), (2, .int x2), (3, .int x3)] → kX3_rateOf_17 n (σ, x1, x2, x3) = some q → W p l e rmX3_rateOf s m args below meth c H locs 0 0 (MQ below (zQi D (mw cy ad q.2) A q.1) args s 0 0 A) (F0 m 17 ls []) := by
  obtain ⟨hx, hb, hml, hown, hts, hr, hlocks, hK, hA⟩ := id C
  intro n
  induction n with
  | zero => intro σ x1 x2 x3 H locs hP hD hS ls hl hm; cases hm
  | succ n ih =>
    intro σ x1 x2 x3 H locs hP hD hS ls hl hm
    have hm : bkX3_rateOf_17  (kX3_rateOf_17 n) σ x1 x2 x3 = some q := hm
    unfold bkX3_rateOf_17 at hm
    refine lv_iload_n hx hb dX3_rateOf_17 rfl (lv_at hl 3 rfl) ?_
    refine lv_sipush (v := 3000) hx hb dX3_rateOf_18 (by decide) ?_
    refine lv_icmp_gt (tgt := 44) hx hb dX3_rateOf_21 (by decide) (fun c_1 => ?_) (fun c_1 => ?_)
    · have hm := ifp c_1 hm
      refine lv_iconst (v := -1) hx hb dX3_rateOf_44 (by decide) ?_
      exact z_i hx hb hr hlocks hm hP hD hS dX3_rateOf_45
    · have hm := ifn c_1 hm
      refine lv_aload_n hx hb dX3_rateOf_24 rfl (lv_at hl 0 rfl) ?_
      refine lv_iload_n hx hb dX3_rateOf_25 rfl (lv_at hl 1 rfl) ?_
      refine lv_iload_n hx hb dX3_rateOf_26 rfl (lv_at hl 3 rfl) ?_
      obtain ⟨q_2, hq_2, hm⟩ := ob hm
      refine zc_l (zr_V [.int x1, .int x3] [] ⟨hx, hb, hml, hown, hts⟩ (ctX3_price1 l D cy ad σ  x1 x3 q_2 hq_2 _) (cwV 2 hts gX3_rateOf_X3_price1 rfl rfl rfl (by decide +kernel) ⟨Nat.le_of_ble_eq_true rfl, Nat.le_of_ble_eq_true rfl⟩) hK hP hD 0 mw_0 rfl rfl rfl hl.1 rfl (Nat.le_of_ble_eq_true rfl) dX3_rateOf_27 ⟨Nat.zero_le _, Nat.zero_le _⟩) hD hS hA (fun H locs hP hD hS => ?_)
      refine lv_iload_n hx hb dX3_rateOf_30 rfl (lv_at hl 2 rfl) ?_
      refine lv_i2l hx hb dX3_rateOf_31 rfl ?_
      refine W.lcmp hx hb dX3_rateOf_32 ?_
      refine lv_if_gt (tgt := 38) hx hb dX3_rateOf_33 (by decide) (fun c_3 => ?_) (fun c_3 => ?_)
      · have hm := ifp c_3 hm
        refine lv_iinc (v := (x3 + (1 : Int32))) (lv' := [(3, .int (x3 + (1 : Int32))), (0, .ref (ad 0 0)), (1, .int x1), (2, .int x2)]) hx hb dX3_rateOf_38 hl (k := 3) rfl rfl (by decide) rfl (fun ls hl => ?_)
        refine lv_goto (tgt := 17) hx hb dX3_rateOf_41 (by decide) ?_
        exact ih σ x1 x2 (x3 + (1 : Int32)) _ _ hP hD hS _ (lv_sub hl [1, 2, 3, 0] rfl) hm
      · have hm := ifn c_3 hm
        refine lv_iload_n hx hb dX3_rateOf_36 rfl (lv_at hl 3 rfl) ?_
        exact z_i hx hb hr hlocks hm hP hD hS dX3_rateOf_37
def mX3_rateOf (σ : ST) (a1 : Int32) (a2 : Int32) : Option (Int32 × ST) := sv (sI σ 0 0 10 (0 : Int32)) fun σ_4 => (mX3_isBond σ_4 a1).bind fun q_5 => if q_5 = (0 : Int32) then (some ((-1 : Int32), σ_4)) else (kX3_rateOf_17 FU (σ_4, a1, a2, (0 : Int32)))
set_option maxHeartbeats 4000000 in
set_option maxRecDepth 100000 in
theorem ctX3_rateOf (l : Launch) (D : va_G) (cy : Nat → ClassId) (ad : Nat → Nat → Nat) (σ : ST) (a1 : Int32) (a2 : Int32) (q : Int32 × ST) (hm : mX3_rateOf σ a1 a2 = some q) : zMi l yX3_rateOf wsX3_rateOf rmX3_rateOf D cy [.ref (ad 0 0), .int a1, .int a2] (mw cy ad σ) q.1 (mw cy ad q.2) := by
  intro sz
  refine Met.ofW (cc := cX3_rateOf) (maxL := 4) (ret := (some .int)) (by decide) rfl ?_
  intro p e s m args below meth c s₁ B hml hv
  obtain ⟨rfl, hsz, hP, hK, hD0⟩ := hv
  have hx := B.exec
  have hb := B.bytes
  have hr := B.returns
  have hts := atoms_spec (ws := wsX3_rateOf) B.pre
  have hown : s.vm.findClass RX3 = some m.cls := findClass_of_methodNamed B.named
  have hlocks := B.notSynchronized
  subst hsz
  have hD := hD0.self (sz := s.heap.size)
  generalize hAe : va_A (mw cy ad σ) s.heap.size = A at hD ⊢
  have hA : ∀ q : Nat, s.heap.size ≤ q → A q := fun q h => by rw [← hAe]; exact Or.inr h
  have hS : va_S A s.heap s.heap [] := va_S.rf
  have C : Cx p s m _ meth c cX3_rateOf 4 (some .int) RX3 wsX3_rateOf D cy A := ⟨hx, hb, hml, hown, hts, hr, hlocks, hK, hA⟩
  have hl := lv_entry ([.ref (ad 0 0), .int a1, .int a2]) (n := 4) (Nat.le_of_ble_eq_true rfl)
  rw [lg_entry_eq]
  generalize (lg_sl ([.ref (ad 0 0), .int a1, .int a2]) ++ List.replicate (4 - (lg_sl ([.ref (ad 0 0), .int a1, .int a2])).length) Slot.unset).toArray = ls at hl ⊢
  have hl : lv_has ls 4 [(0, .ref (ad 0 0)), (1, .int a1), (2, .int a2)] := hl
  unfold mX3_rateOf at hm
  refine lv_aload_n hx hb dX3_rateOf_0 rfl (lv_at hl 0 rfl) ?_
  refine lv_iconst (v := 0) hx hb dX3_rateOf_1 (by decide) ?_
  refine va_put (D := D) (ci := 3) (v := .int (0 : Int32)) (ty := .int) (C := RX3) (T := TX3) (N := 20) hx hb hts iwX3_rateOf_X3 tyX3 tyX3_ok nmX3 hown hK.1 hP hD hS 0 mw_0 rfl 10 (by decide) (hts _ lkX3_rateOf_61) (fun _ h9 => h9) rfl (by decide +kernel) rfl rfl (Nat.le_of_ble_eq_true rfl) dX3_rateOf_2 (fun H locs hP hD hS => ?_)
  have hP := eP (mw_s0 (σ := σ) (j := 10) (v := (0 : Int32)) (by rfl)) hP
  have hD := eD (mw_s0 (σ := σ) (j := 10) (v := (0 : Int32)) (by rfl)) hD
  obtain ⟨σ_4, e_4, hm⟩ := sv_some hm
  have hP : va_P D vwCl (mw cy ad σ_4) H := by rw [e_4]; exact hP
  have hD : va_D A (mw cy ad σ_4) := by rw [e_4]; exact hD
  refine lv_aload_n hx hb dX3_rateOf_5 rfl (lv_at hl 0 rfl) ?_
  refine lv_iload_n hx hb dX3_rateOf_6 rfl (lv_at hl 1 rfl) ?_
  obtain ⟨q_5, hq_5, hm⟩ := ob hm
  refine zc_i (zr_V [.int a1] [] ⟨hx, hb, hml, hown, hts⟩ (ctX3_isBond l D cy ad σ_4  a1 q_5 hq_5 _) (cwV 1 hts gX3_rateOf_X3_isBond rfl rfl rfl (by decide +kernel) ⟨Nat.le_of_ble_eq_true rfl, Nat.le_of_ble_eq_true rfl⟩) hK hP hD 0 mw_0 rfl rfl rfl hl.1 rfl (Nat.le_of_ble_eq_true rfl) dX3_rateOf_7 ⟨Nat.zero_le _, Nat.zero_le _⟩) hD hS hA (fun H locs hP hD hS => ?_)
  refine lv_if_ne (tgt := 15) hx hb dX3_rateOf_10 (by decide) (fun c_6 => ?_) (fun c_6 => ?_)
  · have hm := ifn c_6 hm
    refine lv_iconst (v := 0) hx hb dX3_rateOf_15 (by decide) ?_
    refine lv_istore_n (lv' := [(3, .int (0 : Int32)), (0, .ref (ad 0 0)), (1, .int a1), (2, .int a2)]) hx hb dX3_rateOf_16 rfl hl (by decide) rfl (fun ls hl => ?_)
    exact kX3_rateOf_17_ok C q FU σ_4 a1 a2 (0 : Int32) _ _ hP hD hS _ (lv_sub hl [1, 2, 3, 0] rfl) hm
  · have hm := ifp c_6 hm
    refine lv_iconst (v := -1) hx hb dX3_rateOf_13 (by decide) ?_
    exact z_i hx hb hr hlocks hm hP hD hS dX3_rateOf_14
